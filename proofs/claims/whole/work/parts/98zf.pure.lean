/-! ===== PURE: run (109): instructions: literals, built-ins ===== -/
section IN10
variable {N : Nat} {X : Nat → Option zz_C} {t0 t t1 t2 : cS} {s0 s s' s1 s2 : mS} {u w f f' p h fu m m' d d' n k b z j jn k0 nb an o : Nat} {code : List Ins} {Fs : List Fn} {T T' T1 : Ty} {out out' : List Int32} {F G : List Fm} {sh sh' S0 : Nat → Option Nod} {vs vs' : List (Option Nod)} {I I' J : List It} {q r pl kk gg a1 b1 c1 : Int32} {v va vb : Int64} {it : It} {x y : Nod} {l : List (Option Nod)} {L L' : List Nat} {g : Fn} {a a' : Fm} {ans : Ans} {xs ys : List Nod}
theorem i_6 (hN : 170000 ≤ N) (C : CS t0 t p code Fs fu S0 ((m, 0, vs, I) :: G) sh T out) (R : RSm s0 s h code Fs fu ((m, 0, vs, I) :: G) sh T out) (K : CK code Fs fu ((m, 0, vs, I) :: G) sh T out n) (ho : (inA code m).1 = 6) : GO N X t0 s0 p h code Fs fu S0 t s n := by
  obtain ⟨g, P⟩ := K.pl0
  obtain ⟨L', z3, z4⟩ := K.nxt
  obtain ⟨M, hM1, hM2⟩ := effJ (Or.inl ho) z3
  obtain ⟨xs, J, I', e1, e2, e3, e4, e5, e6, e7, e8⟩ := topV K P hM1
  obtain ⟨ec, er⟩ := cI_6 (code := code) (own := posC code m) (e := h) ho
  have hj : (inA code m).2.1 ≤ 2000 := P.2.2.2.2.1.2.2.2.2.2.1 ho
  have hbd := K.bd
  rw [← e2] at hj ec er
  refine vopS (an := 20) (o := 6) (jn := xs.length) (xs := xs) (ans := ansL xs) hN C R K ec (by omega) er (by omega) (by unfold clen; rw [ho]; rfl) (by unfold rlen; rw [ho]; rfl) (by omega) e1 (fun y hy => Or.inl (e5 y hy)) e3 (by rw [e4, List.length_map, List.length_reverse]) (by rw [z3, hM2, e7]) (fun tS u' hu CS1 => ?_) (fun sS nb f' kx hkx A LE A2 A3 A4 A5 => ?_) okAn_L (fun x' hx' => ?_) e8
  · have eC : cStk ((m, 0, vs, I) :: G) = xs.reverse.map some ++ cStk ((m, 0, vs, I') :: G) := by
      rw [e1, cStk_app (m' := m) (d' := 0), e4]
    obtain ⟨t1, g1, g2⟩ := CS1.gather (N := N) (X := X) hN (by omega) eC
    obtain ⟨t2, v, q1, q2⟩ := c_lit (N := N) (X := X) hN g2 (fun x hx => (e8 x hx).1) (fun x hx => (e8 x hx).2) (by omega) hu
    refine ⟨t2, v, q2.F, fun va' vb' h1 h2 t3 ht => ?_⟩
    refine c_wk20.trans ?_
    have q1 : cf_127 N X (Int32.ofNat 1) (Int32.ofNat 0) t1 = _ := q1
    unfold cf_143_177 cf_143_182 cf_143_192 cf_143_197 cf_143_296
    simp (disch := omega) only [ev_S, ev_C, ↓reduceIte, Nat.reduceEqDiff, Nat.reduceLeDiff, Nat.reduceAdd, Nat.reduceMul, Nat.reduceSub, reduceCtorEq, l32_0, l32_1, l32_2, l32_3, l32_4, l32_5, l32_6, l32_7, l32_8, l32_9, l32_10, l32_11, l32_12, l32_13, l32_14, l32_15, l32_16, l32_17, l32_18, l32_19, l32_20, l32_21, l32_22, l32_23, l32_24, l32_25, l32_26, l32_27, l32_28, l32_29, l32_33, l32_40, l32_41, l32_44, l32_45, l32_59, l32_61, l32_91, l32_93, l32_123, l32_125, g1, q1, ht]
  · obtain ⟨s2, q1, q2⟩ := r_lit (N := N) hN A (by omega)
    refine ⟨s2, ?_, q2⟩
    rw [r_wk6 hkx A3]
    have sb : Int32.ofNat (nb + xs.length) - Int32.ofNat xs.length = Int32.ofNat nb := by rw [← Int32.ofNat_sub _ _ (by omega), Nat.add_sub_cancel]
    unfold mf_316_66 mf_316_81
    simp (disch := omega) only [ev_S, ev_P, ↓reduceIte, Nat.reduceEqDiff, Nat.reduceLeDiff, Nat.reduceAdd, Nat.reduceMul, Nat.reduceSub, reduceCtorEq, l32_0, l32_1, l32_2, l32_3, l32_4, l32_5, l32_6, l32_7, l32_8, l32_9, l32_10, l32_11, l32_12, l32_13, l32_14, l32_15, l32_16, l32_17, l32_18, l32_19, l32_20, l32_21, l32_22, l32_23, l32_24, l32_25, l32_26, l32_27, l32_28, l32_29, l32_33, l32_40, l32_41, l32_44, l32_45, l32_59, l32_61, l32_91, l32_93, l32_123, l32_125, A4, A2, sb, q1, l32_8000]
  · rw [pv_app (fun y hy => Or.inl (e5 y hy)), e6, ← e2]
    have : xs.length ≤ ctV (vw x') := by
      unfold ansL at hx'
      split at hx'
      · rename_i c
        exact ct_M (k := 1) (Or.inl ⟨rfl, fun x hx => by rw [kd_kn, aK_i.mp c x hx]; rfl⟩) hx'
      · split at hx'
        · rename_i c
          exact ct_M (k := 2) (Or.inr (Or.inl ⟨rfl, fun x hx => by rw [kd_kn, aK_i.mp c x hx]; rfl⟩)) hx'
        · cases hx'
    omega
theorem suP5 : suP 5 xs k = true := by
  unfold suP
  rw [List.all_eq_true]
  intro j _
  rfl
theorem i_8 (hN : 170000 ≤ N) (hX : oX N X) (hW : oW X) (C : CS t0 t p code Fs fu S0 ((m, 0, vs, I) :: G) sh T out) (R : RSm s0 s h code Fs fu ((m, 0, vs, I) :: G) sh T out) (K : CK code Fs fu ((m, 0, vs, I) :: G) sh T out n) (ho : (inA code m).1 = 8) (hb : (inA code m).2.2.1 < 28 ∧ ((inA code m).2.2.1 = 5 → (inA code m).2.1 ≤ 6)) (hwn : ¬ (inA code m).2.2.1 = 5 → (inA code m).2.1 = if (inA code m).2.2.1 = 3 ∨ 19 ≤ (inA code m).2.2.1 then 2 else 1) : GO N X t0 s0 p h code Fs fu S0 t s n := by
  obtain ⟨g, P⟩ := K.pl0
  obtain ⟨L', z3, z4⟩ := K.nxt
  obtain ⟨M, hM1, hM2⟩ := effJ (Or.inr ho) z3
  obtain ⟨xs, J, I', e1, e2, e3, e4, e5, e6, e7, e8⟩ := topV K P hM1
  obtain ⟨ec, er⟩ := cI_8 (code := code) (own := posC code m) (e := h) ho
  have hbd := K.bd
  have hcl : clen (inA code m) = 1 := by unfold clen; rw [ho]; rfl
  have hrlen : rlen (inA code m) = 1 := by unfold rlen; rw [ho]; rfl
  have h20 : ¬ (inA code m).1 = 20 := by omega
  have eC : cStk ((m, 0, vs, I) :: G) = xs.reverse.map some ++ cStk ((m, 0, vs, I') :: G) := by
    rw [e1, cStk_app (m' := m) (d' := 0), e4]
  generalize hbb : (inA code m).2.2.1 = bb at *
  generalize hjj : (inA code m).2.1 = jj at *
  by_cases c5 : bb = 5
  · have h6 := hb.2 c5
    rw [if_pos c5] at ec
    rw [← e2] at ec er h6
    refine vopS (an := 24) (o := 8) (jn := xs.length) (xs := xs) (ans := ansM 3 xs) hN C R K ec (by omega) er (by omega) hcl hrlen h20 e1 (fun y hy => Or.inl (e5 y hy)) e3 (by rw [e4, List.length_map, List.length_reverse]) (by rw [z3, hM2, e7]) (fun tS u' hu CS1 => ?_) (fun sS nb f' kx hkx A LE A2 A3 A4 A5 => ?_) okAn_M (fun x' hx' => ?_) e8
    · obtain ⟨t1, g1, g2⟩ := CS1.gather (N := N) (X := X) hN (by omega) eC
      obtain ⟨t2, v, q1, q2⟩ := g2.build (N := N) (X := X) (k := 3) hN (Or.inr (Or.inr rfl)) (fun x hx => (e8 x hx).1) (fun x hx => (e8 x hx).2) (by omega) (by omega) (by omega) (by omega) (by omega)
      refine ⟨t2, v, q2.F, fun va' vb' h1 h2 t3 ht => ?_⟩
      refine c_wk24.trans ?_
      have q1 : cf_126 N X (Int32.ofNat 3) (Int32.ofNat 0) t1 = _ := q1
      unfold cf_143_200 cf_143_205 cf_143_215 cf_143_220 cf_143_296
      simp (disch := omega) only [ev_S, ev_C, ↓reduceIte, Nat.reduceEqDiff, Nat.reduceLeDiff, Nat.reduceAdd, Nat.reduceMul, Nat.reduceSub, reduceCtorEq, l32_0, l32_1, l32_2, l32_3, l32_4, l32_5, l32_6, l32_7, l32_8, l32_9, l32_10, l32_11, l32_12, l32_13, l32_14, l32_15, l32_16, l32_17, l32_18, l32_19, l32_20, l32_21, l32_22, l32_23, l32_24, l32_25, l32_26, l32_27, l32_28, l32_29, l32_33, l32_40, l32_41, l32_44, l32_45, l32_59, l32_61, l32_91, l32_93, l32_123, l32_125, g1, q1, ht]
    · obtain ⟨s2, q1, q2⟩ := r_box (N := N) hN A (by omega)
      refine ⟨s2, ?_, q2⟩
      rw [r_wk8 hkx A3]
      have hsu := r_suits (N := N) (b := 5) hN A (by omega) (Or.inl rfl)
      rw [if_pos suP5, q1] at hsu
      have A4 : sS.2.2.1 24 kx = Int32.ofNat 5 := by rw [A4, c5]
      have sb : Int32.ofNat (nb + xs.length) - Int32.ofNat xs.length = Int32.ofNat nb := by rw [← Int32.ofNat_sub _ _ (by omega), Nat.add_sub_cancel]
      unfold mf_316_87 mf_316_108
      simp (disch := omega) only [ev_S, ev_P, ↓reduceIte, Nat.reduceEqDiff, Nat.reduceLeDiff, Nat.reduceAdd, Nat.reduceMul, Nat.reduceSub, reduceCtorEq, l32_0, l32_1, l32_2, l32_3, l32_4, l32_5, l32_6, l32_7, l32_8, l32_9, l32_10, l32_11, l32_12, l32_13, l32_14, l32_15, l32_16, l32_17, l32_18, l32_19, l32_20, l32_21, l32_22, l32_23, l32_24, l32_25, l32_26, l32_27, l32_28, l32_29, l32_33, l32_40, l32_41, l32_44, l32_45, l32_59, l32_61, l32_91, l32_93, l32_123, l32_125, A4, A5, A2, sb, hsu, l32_8000]
    · rw [pv_app (fun y hy => Or.inl (e5 y hy)), e6, ← e2]
      omega
  · rw [if_neg c5] at ec
    have hjw := hwn c5
    have cnm := fun t => c_numb (N := N) (X := X) (t := t) (b := bb) hX hb.1
    by_cases c2 : bb = 3 ∨ 19 ≤ bb
    · rw [if_pos c2] at hjw
      rw [if_neg (by omega)] at ec
      rw [hjw] at e2 er
      obtain ⟨x, y, rfl⟩ := two_xs e2
      have hx := e8 x List.mem_cons_self
      have hy := e8 y (List.mem_cons_of_mem _ List.mem_cons_self)
      have eC : cStk ((m, 0, vs, I) :: G) = some y :: some x :: cStk ((m, 0, vs, I') :: G) := eC
      refine vopS (an := 23) (o := 8) (jn := 2) (xs := [x, y]) (ans := if (suB bb 0 (kn x) (kn x) && suB bb 1 (kn y) (kn x)) = true then ansB2 bb x y else .inl 3) hN C R K ec (by omega) er (by omega) hcl hrlen h20 e1 (fun y hy => Or.inl (e5 y hy)) e3 (by rw [e4]; rfl) (by rw [z3, hM2, e7]) (fun tS u' hu CS1 => ?_) (fun sS nb f' kx hkx A LE A2 A3 A4 A5 => ?_) (okAn_i okAn_B2 (okAn_l (by omega))) (fun x' hx' => ?_) e8
      · obtain ⟨va, p1, p2⟩ := CS1.top1 (N := N) (X := X) eC
        obtain ⟨vb, p3, p4⟩ := CS1.top2 (N := N) (X := X) eC
        obtain ⟨t2, v, q1, q2⟩ := c_blt2 (N := N) (X := X) (b := bb) hN hW CS1.2.2.1 p4 p2 hx.1 hx.2 hy.1 hy.2 hu (Nat.zero_le _) (by omega)
        refine ⟨t2, v, q2.F, fun va' vb' h1 h2 t3 ht => ?_⟩
        rw [p1] at h1
        rw [p3] at h2
        cases h1
        cases h2
        refine c_wk23.trans ?_
        have cn := cnm tS
        unfold cf_143_152 cf_143_162 cf_143_169 cf_143_174 cf_143_296
        simp (disch := omega) only [ev_S, ev_C, ↓reduceIte, Nat.reduceEqDiff, Nat.reduceLeDiff, Nat.reduceAdd, Nat.reduceMul, Nat.reduceSub, reduceCtorEq, l32_0, l32_1, l32_2, l32_3, l32_4, l32_5, l32_6, l32_7, l32_8, l32_9, l32_10, l32_11, l32_12, l32_13, l32_14, l32_15, l32_16, l32_17, l32_18, l32_19, l32_20, l32_21, l32_22, l32_23, l32_24, l32_25, l32_26, l32_27, l32_28, l32_29, l32_33, l32_40, l32_41, l32_44, l32_45, l32_59, l32_61, l32_91, l32_93, l32_123, l32_125, cn, q1, ht]
      · have hsu := r_suits (N := N) (b := bb) hN A hb.1 (Or.inr (Nat.le_refl _))
        have esu : suP bb [x, y] [x, y].length = (suB bb 0 (kn x) (kn x) && suB bb 1 (kn y) (kn x)) := by
          show (suB bb 0 (kn x) (kn x) && (suB bb 1 (kn y) (kn x) && true)) = _
          rw [Bool.and_true]
        rw [esu] at hsu
        have sb : Int32.ofNat (nb + 2) - Int32.ofNat 2 = Int32.ofNat nb := by rw [← Int32.ofNat_sub _ _ (by omega), Nat.add_sub_cancel]
        have A2 : sS.1 51 = Int32.ofNat (nb + 2) := A2
        have key : ∃ s2, mf_328 N (Int32.ofNat bb) (Int32.ofNat nb) sS = some (s2, none) ∧ rE sS s2 nb f' T.2.1 (if (suB bb 0 (kn x) (kn x) && suB bb 1 (kn y) (kn x)) = true then ansB2 bb x y else .inl 3) := by
          by_cases c : (suB bb 0 (kn x) (kn x) && suB bb 1 (kn y) (kn x)) = true
          · rw [if_pos c] at hsu ⊢
            have c' := Bool.and_eq_true_iff.mp c
            obtain ⟨s2, q1, q2⟩ := r_blt2 (N := N) (b := bb) hN A LE (by omega) c'.1 c'.2
            exact ⟨s2, by rw [hsu]; exact q1, q2⟩
          · rw [if_neg c] at hsu ⊢
            obtain ⟨s2, q1, q2⟩ := r_unsuit (N := N) A
            exact ⟨s2, by rw [hsu]; exact q1, q2⟩
        obtain ⟨s2, q1, q2⟩ := key
        refine ⟨s2, ?_, q2⟩
        rw [r_wk8 hkx A3]
        unfold mf_316_87 mf_316_108
        simp (disch := omega) only [ev_S, ev_P, ↓reduceIte, Nat.reduceEqDiff, Nat.reduceLeDiff, Nat.reduceAdd, Nat.reduceMul, Nat.reduceSub, reduceCtorEq, l32_0, l32_1, l32_2, l32_3, l32_4, l32_5, l32_6, l32_7, l32_8, l32_9, l32_10, l32_11, l32_12, l32_13, l32_14, l32_15, l32_16, l32_17, l32_18, l32_19, l32_20, l32_21, l32_22, l32_23, l32_24, l32_25, l32_26, l32_27, l32_28, l32_29, l32_33, l32_40, l32_41, l32_44, l32_45, l32_59, l32_61, l32_91, l32_93, l32_123, l32_125, A4, A5, A2, sb, q1, l32_8000]
      · rw [pv_app (fun y hy => Or.inl (e5 y hy)), e6]
        omega
    · rw [if_neg c2] at hjw
      rw [if_pos hjw] at ec
      rw [hjw] at e2 er
      obtain ⟨x, rfl⟩ := one_xs e2
      have hx := e8 x List.mem_cons_self
      have eC : cStk ((m, 0, vs, I) :: G) = some x :: cStk ((m, 0, vs, I') :: G) := eC
      refine vopS (an := 22) (o := 8) (jn := 1) (xs := [x]) (ans := if suB bb 0 (kn x) (kn x) = true then ansB1 bb x else .inl 3) hN C R K ec (by omega) er (by omega) hcl hrlen h20 e1 (fun y hy => Or.inl (e5 y hy)) e3 (by rw [e4]; rfl) (by rw [z3, hM2, e7]) (fun tS u' hu CS1 => ?_) (fun sS nb f' kx hkx A LE A2 A3 A4 A5 => ?_) (okAn_i okAn_B1 (okAn_l (by omega))) (fun x' hx' => ?_) e8
      · obtain ⟨va, p1, p2⟩ := CS1.top1 (N := N) (X := X) eC
        obtain ⟨t2, v, q1, q2⟩ := c_blt1 (N := N) (X := X) (b := bb) hN hW CS1.2.2.1 p2 hx.1 hx.2 CS1.2.1.2.2.2.1.2.2.2.2 hu (Nat.zero_le _) (by omega) (by omega)
        refine ⟨t2, v, q2.F, fun va' vb' h1 h2 t3 ht => ?_⟩
        rw [p1] at h1
        cases h1
        refine c_wk22.trans ?_
        have cn := cnm tS
        unfold cf_143_129 cf_143_139 cf_143_144 cf_143_149 cf_143_296
        simp (disch := omega) only [ev_S, ev_C, ↓reduceIte, Nat.reduceEqDiff, Nat.reduceLeDiff, Nat.reduceAdd, Nat.reduceMul, Nat.reduceSub, reduceCtorEq, l32_0, l32_1, l32_2, l32_3, l32_4, l32_5, l32_6, l32_7, l32_8, l32_9, l32_10, l32_11, l32_12, l32_13, l32_14, l32_15, l32_16, l32_17, l32_18, l32_19, l32_20, l32_21, l32_22, l32_23, l32_24, l32_25, l32_26, l32_27, l32_28, l32_29, l32_33, l32_40, l32_41, l32_44, l32_45, l32_59, l32_61, l32_91, l32_93, l32_123, l32_125, cn, q1, ht]
      · have hsu := r_suits (N := N) (b := bb) hN A hb.1 (Or.inr (by show 1 ≤ 2; omega))
        have esu : suP bb [x] [x].length = suB bb 0 (kn x) (kn x) := by
          show (suB bb 0 (kn x) (kn x) && true) = _
          rw [Bool.and_true]
        rw [esu] at hsu
        have sb : Int32.ofNat (nb + 1) - Int32.ofNat 1 = Int32.ofNat nb := by rw [← Int32.ofNat_sub _ _ (by omega), Nat.add_sub_cancel]
        have A2 : sS.1 51 = Int32.ofNat (nb + 1) := A2
        have key : ∃ s2, mf_328 N (Int32.ofNat bb) (Int32.ofNat nb) sS = some (s2, none) ∧ rE sS s2 nb f' T.2.1 (if suB bb 0 (kn x) (kn x) = true then ansB1 bb x else .inl 3) := by
          by_cases c : suB bb 0 (kn x) (kn x) = true
          · rw [if_pos c] at hsu ⊢
            obtain ⟨s2, q1, q2⟩ := r_blt1 (N := N) (b := bb) hN A (by omega) (by omega) c
            exact ⟨s2, by rw [hsu]; exact q1, q2⟩
          · rw [if_neg c] at hsu ⊢
            obtain ⟨s2, q1, q2⟩ := r_unsuit (N := N) A
            exact ⟨s2, by rw [hsu]; exact q1, q2⟩
        obtain ⟨s2, q1, q2⟩ := key
        refine ⟨s2, ?_, q2⟩
        rw [r_wk8 hkx A3]
        unfold mf_316_87 mf_316_108
        simp (disch := omega) only [ev_S, ev_P, ↓reduceIte, Nat.reduceEqDiff, Nat.reduceLeDiff, Nat.reduceAdd, Nat.reduceMul, Nat.reduceSub, reduceCtorEq, l32_0, l32_1, l32_2, l32_3, l32_4, l32_5, l32_6, l32_7, l32_8, l32_9, l32_10, l32_11, l32_12, l32_13, l32_14, l32_15, l32_16, l32_17, l32_18, l32_19, l32_20, l32_21, l32_22, l32_23, l32_24, l32_25, l32_26, l32_27, l32_28, l32_29, l32_33, l32_40, l32_41, l32_44, l32_45, l32_59, l32_61, l32_91, l32_93, l32_123, l32_125, A4, A5, A2, sb, q1, l32_8000]
      · rw [pv_app (fun y hy => Or.inl (e5 y hy)), e6]
        omega
end IN10
