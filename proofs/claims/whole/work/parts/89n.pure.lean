/-! ===== PURE: a variable is named (2) ===== -/
abbrev eV : Nat → Nat → Prop := fun k f => (k = 3 ∧ (f = 4 ∨ f = 5 ∨ f = 6)) ∨ (k = 2 ∧ (f = 2 ∨ f = 4 ∨ f = 10 ∨ f = 11))
abbrev aV : Nat → Prop := fun k => k = 7
abbrev fV (s s' : mS) : Prop := mfr (fun q => q = 5 ∨ q = 6 ∨ q = 8 ∨ q = 9 ∨ q = 10 ∨ q = 11 ∨ q = 22) (fun q => q = 7) (fun _ => False) (fun q => q = 21) s s'
section VAS
variable {N : Nat} {X : Nat → Option zz_C} {t : cS} {s : mS} {b : Nat → Nat} {n i op : Nat} {vs : List (List Nat)}
theorem VR.keep {t' : cS} {s' : mS} (h : VR vs t s) (h1 : kI t' 2 4 = kI t 2 4) (h2 : kB t' 7 = kB t 7) (h3 : s'.1 22 = s.1 22) (h4 : s'.2.2.2 21 = s.2.2.2 21) : VR vs t' s' := by
  obtain ⟨a1, a2, a3, a4, a5⟩ := h
  exact ⟨a1, by rw [h1]; exact a2, by rw [h2]; exact a3, by rw [h3]; exact a4, fun i hi => by rw [h2, h4]; exact a5 i hi⟩
theorem neg_d : ∀ d : Fin 9, Int64.toInt32 (-(Int64.ofNat d.1)) = -Int32.ofNat d.1 := by decide
theorem p_name (hN : 170000 ≤ N) (h : pR b n i op t s) (hV : VR vs t s) : (∃ r t' s' vs', cf_195 N X t = some (t', .inl (some (.int (cv r)))) ∧ mf_275 N s = some (s', some (.int (Int32.ofNat r))) ∧ (∃ hi : i < (TL b n).length, ck (TL b n)[i] = 3) ∧ pR b n (i + 1) op t' s' ∧ VR vs' t' s' ∧ r < 8 + vs'.length ∧ (∃ l, vs' = vs ++ l) ∧ gL eV aV t t' ∧ fV s s') ∨ (∃ t' s', cf_195 N X t = some (t', .inr ()) ∧ mf_275 N s = some (s', some (.int 0)) ∧ pF t' s' ∧ gX eP a0 t t' ∧ fV s s') := by
  obtain ⟨hi, e5, e6, e7, hk, ho, he, hlt, hll⟩ := h.now
  have h9 : s.1 9 = Int32.ofNat 0 := h.2.2.2.2.2.2.2.2.2
  have hw := h.2.2.2.2.2.2.2.1
  have e42 : cf_42 N X t = some (t, .inl (some (.int (Int32.ofNat (ck (TL b n)[i]))))) := by
    repeat ((first | unfold cf_42 | unfold cf_42_0); try simp (disch := omega) only [ev_S, ev_C, ↓reduceIte, Nat.reduceEqDiff, Nat.reduceLeDiff, Nat.reduceAdd, Nat.reduceMul, Nat.reduceSub, reduceCtorEq, l32_0, l32_1, l32_2, l32_3, l32_4, l32_5, e5])
  have isN := r_isName (N := N) hN hw hk
  have kx : ∀ (t' : cS) (g : cS → Option Value → kO), ko_call 5 (some (t', .inr ())) g = some (t', .inr ()) := fun _ _ => rfl
  by_cases c3' : ck (TL b n)[i] = 3
  · obtain ⟨k1, k2⟩ := ck_3.mp c3'
    rw [if_pos c3'] at isN
    rw [c3'] at e42
    obtain ⟨ls, hls⟩ : ∃ ls, ls = (TL b n)[i].2.2.1 := ⟨_, rfl⟩
    rw [← hls] at k2
    have hol : okL ls ∧ ls.length ≤ 8 := by
      rw [hls]
      rcases ho with q | q | ⟨q, -⟩ | ⟨-, q1, q2⟩ | ⟨q, -⟩
      · omega
      · omega
      · omega
      · exact ⟨q1, q2⟩
      · omega
    obtain ⟨okl, l8⟩ := hol
    have ev7 : kL t 3 7 = Int64.ofNat (evB 32 ls) := by
      rw [e7]
      unfold c3
      rw [if_pos k1, ← hls, k2]
    have er7 : s.2.1 7 = Int64.ofNat (evB 27 ls) := by
      rcases hk.2.2 with ⟨q, -⟩ | ⟨q, -⟩ | ⟨q, -⟩ | ⟨-, -, q, -⟩ | ⟨q, -⟩
      · omega
      · omega
      · omega
      · rw [hls]
        exact q
      · omega
    have e244 : cf_244 N X t = some (t, .inl (some (.long (Int64.ofNat (evB 32 ls))))) := by
      repeat ((first | unfold cf_244 | unfold cf_244_0); try simp (disch := omega) only [ev_S, ev_C, ↓reduceIte, Nat.reduceEqDiff, Nat.reduceLeDiff, Nat.reduceAdd, Nat.reduceMul, Nat.reduceSub, reduceCtorEq, l32_0, l32_1, l32_2, l32_3, l32_4, l32_7, ev7])
    obtain ⟨cs1, cs2⟩ := c_namesShelf (N := N) (X := X) (t := t) okl l8
    obtain ⟨rs1, rs2⟩ := r_isShelf (N := N) (s := s) okl l8
    have h2i : ∀ hi : i < (TL b n).length, 2 ≤ (TL b n)[i].1 := fun _ => by show 2 ≤ (TL b n)[i].1; omega
    by_cases hH : isH ls
    · left
      have cs1 := cs1 hH
      have rs1 := rs1 hH
      obtain ⟨d, rfl, d1, d2⟩ := hH
      obtain ⟨t', s', a1, a2, a3, a4, a5⟩ := p_adv (N := N) (X := X) hN h h2i
      have ev1 : evB 32 [d] = d := by
        show 32 * 0 + d = d
        omega
      have ev2 : evB 27 [d] = d := by
        show 27 * 0 + d = d
        omega
      have nd := neg_d ⟨d, by omega⟩
      have nd : Int64.toInt32 (-(Int64.ofNat d)) = -Int32.ofNat d := nd
      rw [ev1] at cs1 e244
      rw [ev2] at rs1 er7
      have ecv : cv (d - 1) = -Int32.ofNat d := by
        unfold cv
        rw [if_pos (by omega), show d - 1 + 1 = d by omega]
      refine ⟨d - 1, t', s', vs, ?_, ?_, ⟨hi, c3'⟩, a3, hV.keep (a4.1 2 4 (by omega)) (a4.2.2.1 7 (fun z => z) (by decide)).2.1 (a5.1 22 (by omega)) (a5.2.2.2 21 (fun z => z)), by omega, ⟨[], (List.append_nil _).symm⟩, a4.mono (by omega) (fun _ z => z.elim), ⟨fun q r => a5.1 q (by omega), a5.2.1, a5.2.2.1, fun q r => a5.2.2.2 q (fun z => z)⟩⟩
      · rw [ecv]
        by_cases cd : d = 1
        · subst cd
          unfold cf_195 cf_195_0 cf_195_8 cf_195_12 cf_195_17 cf_195_21 cf_195_28 cf_195_33 cf_195_36 cf_195_47 cf_195_53 cf_195_57 cf_195_104 cf_195_111
          simp (disch := omega) only [ev_S, ev_C, ↓reduceIte, Nat.reduceEqDiff, Nat.reduceLeDiff, Nat.reduceAdd, Nat.reduceMul, Nat.reduceSub, reduceCtorEq, l32_0, l32_1, l32_2, l32_3, l32_4, l32_5, l32_6, l32_7, l32_8, l32_9, l32_10, e42, c_fine, e244, cs1, nd, a1]
        · have nn : ¬ -Int32.ofNat d = -Int32.ofNat 1 := fun q => cd (by
            have := congrArg Int32.toInt q
            rw [negt (by omega), negt (by omega)] at this
            omega)
          unfold cf_195 cf_195_0 cf_195_8 cf_195_12 cf_195_17 cf_195_21 cf_195_28 cf_195_33 cf_195_36 cf_195_47 cf_195_104 cf_195_111
          simp (disch := omega) only [ev_S, ev_C, ↓reduceIte, Nat.reduceEqDiff, Nat.reduceLeDiff, Nat.reduceAdd, Nat.reduceMul, Nat.reduceSub, reduceCtorEq, l32_0, l32_1, l32_2, l32_3, l32_4, l32_5, l32_6, l32_7, l32_8, l32_9, l32_10, e42, c_fine, e244, cs1, nd, nn, a1]
      · unfold mf_275 mf_275_0 mf_275_9 mf_275_13 mf_275_22 mf_275_29 mf_275_32 mf_275_44
        simp (disch := omega) only [ev_S, ev_P, ↓reduceIte, Nat.reduceEqDiff, Nat.reduceLeDiff, Nat.reduceAdd, Nat.reduceMul, Nat.reduceSub, reduceCtorEq, l32_0, l32_1, l32_2, l32_3, l32_4, l32_5, l32_6, l32_7, l32_8, l32_9, l32_10, h9, isN, er7, rs1, a2, Int64.toInt32_ofNat']
    · have cs2 := cs2 hH
      have rs2 := rs2 hH
      obtain ⟨m, m1, m2, m3⟩ := fnd vs ls
      have cn := c_varNumber (N := N) (X := X) hN hV okl l8 m1 m2 m3
      have rn := r_varFind (N := N) hV okl l8 er7 m1 m2 m3 m 0 (N - (m + 1)) (Nat.zero_add _)
      have hV' := hV
      obtain ⟨v1, v2, v3, v4, v5⟩ := hV'
      rw [show N - (m + 1) + (m + 1) = N by omega] at rn
      have r76 : mf_275 N s = mf_275_76 N (Int32.ofNat m) s := by
        rw [← rn]
        unfold mf_275 mf_275_0 mf_275_9 mf_275_13 mf_275_22 mf_275_29 mf_275_46
        simp (disch := omega) only [ev_S, ev_P, ↓reduceIte, Nat.reduceEqDiff, Nat.reduceLeDiff, Nat.reduceAdd, Nat.reduceMul, Nat.reduceSub, reduceCtorEq, l32_0, l32_1, l32_2, l32_3, l32_4, l32_5, l32_6, l32_7, l32_8, l32_9, l32_10, h9, isN, er7, rs2]
      have ecv : cv (8 + m) = Int32.ofNat m := by
        unfold cv
        rw [if_neg (by omega), Nat.add_sub_cancel_left]
      by_cases cm : m < vs.length
      · left
        rw [if_pos cm] at cn
        have y := (v5 m cm).2.1
        rw [m3 cm] at y
        have eu : vp_updL (s.2.2.2 21) m (Int64.ofNat (evB 27 ls)) = s.2.2.2 21 := by
          funext z
          unfold vp_updL
          split
          · rename_i q
            rw [q, y]
          · rfl
        have es : mB s 21 (s.2.2.2 21) = s := by
          have : (fun q => if q = 21 then s.2.2.2 21 else s.2.2.2 q) = s.2.2.2 := by
            funext q
            split
            · rename_i z
              rw [z]
            · rfl
          show (s.1, s.2.1, s.2.2.1, _) = s
          rw [this]
        obtain ⟨t', s', a1, a2, a3, a4, a5⟩ := p_adv (N := N) (X := X) hN h h2i
        refine ⟨8 + m, t', s', vs, ?_, ?_, ⟨hi, c3'⟩, a3, hV.keep (a4.1 2 4 (by omega)) (a4.2.2.1 7 (fun z => z) (by decide)).2.1 (a5.1 22 (by omega)) (a5.2.2.2 21 (fun z => z)), by omega, ⟨[], (List.append_nil _).symm⟩, a4.mono (by omega) (fun _ z => z.elim), ⟨fun q r => a5.1 q (by omega), a5.2.1, a5.2.2.1, fun q r => a5.2.2.2 q (fun z => z)⟩⟩
        · rw [ecv]
          unfold cf_195 cf_195_0 cf_195_8 cf_195_12 cf_195_17 cf_195_21 cf_195_28 cf_195_33 cf_195_42 cf_195_47 cf_195_104 cf_195_111
          simp (disch := omega) only [ev_S, ev_C, ↓reduceIte, Nat.reduceEqDiff, Nat.reduceLeDiff, Nat.reduceAdd, Nat.reduceMul, Nat.reduceSub, reduceCtorEq, l32_0, l32_1, l32_2, l32_3, l32_4, l32_5, l32_6, l32_7, l32_8, l32_9, l32_10, e42, c_fine, e244, cs2, cn, a1]
        · rw [r76]
          unfold mf_275_76 mf_275_93 mf_275_121 mf_275_125
          simp (disch := omega) only [ev_S, ev_P, ↓reduceIte, Nat.reduceEqDiff, Nat.reduceLeDiff, Nat.reduceAdd, Nat.reduceMul, Nat.reduceSub, reduceCtorEq, l32_0, l32_1, l32_2, l32_3, l32_4, l32_5, l32_6, l32_7, l32_8, l32_9, l32_10, v4, er7, eu, es, a2, l32_14]
      · have em : m = vs.length := by omega
        subst em
        rw [if_neg cm] at cn
        have cn : cf_196 N X (Int64.ofNat (evB 32 ls)) t = some (t, .inl (some (.int (-Int32.ofNat 1)))) := cn
        by_cases c14 : vs.length < 14
        · left
          obtain ⟨t1, ht1⟩ : ∃ t1, t1 = jI (jB t 7 (vp_updL (kB t 7).2 vs.length (Int64.ofNat (evB 32 ls)))) 2 4 (Int32.ofNat (vs.length + 1)) := ⟨_, rfl⟩
          obtain ⟨s1, hs1⟩ : ∃ s1, s1 = mI (mB s 21 (vp_updL (s.2.2.2 21) vs.length (Int64.ofNat (evB 27 ls)))) 22 (Int32.ofNat (vs.length + 1)) := ⟨_, rfl⟩
          have h1 : pR b n i op t1 s1 := by
            rw [ht1, hs1]
            obtain ⟨g1, g2, g3, g4, g5, g6, g7, g8, g9, g10⟩ := h
            exact ⟨g1, g2, g3, g4, g5, g6, g7, g8, g9, g10⟩
          have lv' : (vs ++ [ls]).length = vs.length + 1 := List.length_append
          have V1 : VR (vs ++ [ls]) t1 s1 := by
            rw [ht1, hs1]
            refine ⟨by rw [lv']; omega, by rw [lv']; rfl, v3, by rw [lv']; rfl, fun j hj => ?_⟩
            rw [lv'] at hj
            by_cases cj : j < vs.length
            · rw [List.getElem_append_left cj]
              obtain ⟨y1, y2, y3, y4⟩ := v5 j cj
              exact ⟨(updL_n (by omega)).trans y1, (updL_n (by omega)).trans y2, y3, y4⟩
            · have ej : j = vs.length := by omega
              subst ej
              rw [List.getElem_append_right (Nat.le_refl _)]
              simp only [Nat.sub_self, List.getElem_cons_zero]
              exact ⟨if_pos rfl, if_pos rfl, okl, l8⟩
          have g1 : gL eV aV t t1 := by
            rw [ht1]
            exact ⟨fun k f r => if_neg (by omega), fun _ _ _ => rfl, fun k r1 r2 => ⟨rfl, if_neg r1, rfl⟩, rfl, rfl, Nat.le_refl _, Nat.le_refl _, Nat.le_refl _⟩
          have f1 : fV s s1 := by
            rw [hs1]
            exact ⟨fun q r => if_neg (by omega), fun _ _ => rfl, fun _ _ => rfl, fun q r => if_neg r⟩
          obtain ⟨t', s', a1, a2, a3, a4, a5⟩ := p_adv (N := N) (X := X) hN h1 h2i
          refine ⟨8 + vs.length, t', s', vs ++ [ls], ?_, ?_, ⟨hi, c3'⟩, a3, V1.keep (a4.1 2 4 (by omega)) (a4.2.2.1 7 (fun z => z) (by decide)).2.1 (a5.1 22 (by omega)) (a5.2.2.2 21 (fun z => z)), by rw [lv']; omega, ⟨[ls], rfl⟩, gL.tr (t1 := t1) g1 (a4.mono (by omega) (fun _ z => z.elim)), mfr.tr (s1 := s1) f1 ⟨fun q r => a5.1 q (by omega), a5.2.1, a5.2.2.1, fun q r => a5.2.2.2 q (fun z => z)⟩⟩
          · rw [ecv]
            rw [ht1] at a1
            unfold cf_195 cf_195_0 cf_195_8 cf_195_12 cf_195_17 cf_195_21 cf_195_28 cf_195_33 cf_195_42 cf_195_47 cf_195_53 cf_195_57 cf_195_60 cf_195_70 cf_195_75 cf_195_79 cf_195_104 cf_195_111
            simp (disch := omega) only [ev_S, ev_C, ↓reduceIte, Nat.reduceEqDiff, Nat.reduceLeDiff, Nat.reduceAdd, Nat.reduceMul, Nat.reduceSub, reduceCtorEq, l32_0, l32_1, l32_2, l32_3, l32_4, l32_5, l32_6, l32_7, l32_8, l32_9, l32_10, e42, c_fine, e244, cs2, cn, v2, v3, a1, l32_14]
          · rw [r76]
            rw [hs1] at a2
            unfold mf_275_76 mf_275_93 mf_275_111 mf_275_121 mf_275_125
            simp (disch := omega) only [ev_S, ev_P, ↓reduceIte, Nat.reduceEqDiff, Nat.reduceLeDiff, Nat.reduceAdd, Nat.reduceMul, Nat.reduceSub, reduceCtorEq, l32_0, l32_1, l32_2, l32_3, l32_4, l32_5, l32_6, l32_7, l32_8, l32_9, l32_10, v4, er7, a2, l32_14]
        · right
          have e14 : vs.length = 14 := by omega
          obtain ⟨t', a1, a2, hi', a3, a4⟩ := c_fail (N := N) (X := X) (x := 3) h (by omega)
          rw [if_neg (by omega)] at a3
          have a1' : cf_202 N X (Int32.ofNat 0) (Int32.ofNat 3) t = some (t', .inr ()) := a1
          have e6' := hk.1
          have br := r_breaks (N := N) (s := s) (x := Int32.ofNat 3) (y := Int32.ofNat (TL b n)[i].2.2.2.1) h9
          have ha := TL_at hi
          have h5 := h.2.2.2.2.1
          refine ⟨t', flt s (Int32.ofNat 3) (Int32.ofNat (TL b n)[i].2.2.2.1), ?_, ?_, ⟨3, (TL b n)[i].2.2.2.1, by omega, by omega, by omega, a3, a4, rfl, rfl⟩, a2.mono (by omega) (fun _ z => z.elim), ⟨fun q r => ?_, fun _ _ => rfl, fun _ _ => rfl, fun _ _ => rfl⟩⟩
          · rw [e14] at v2
            unfold cf_195 cf_195_0 cf_195_8 cf_195_12 cf_195_17 cf_195_21 cf_195_28 cf_195_33 cf_195_42 cf_195_47 cf_195_53 cf_195_57 cf_195_60 cf_195_74 cf_195_75
            simp (disch := omega) only [ev_S, ev_C, ↓reduceIte, Nat.reduceEqDiff, Nat.reduceLeDiff, Nat.reduceAdd, Nat.reduceMul, Nat.reduceSub, reduceCtorEq, l32_0, l32_1, l32_2, l32_3, l32_4, l32_5, l32_6, l32_7, l32_8, l32_9, l32_10, e42, c_fine, e244, cs2, cn, v2, a1', kx, l32_14]
          · rw [r76, e14]
            unfold mf_275_76 mf_275_82 mf_275_91
            simp (disch := omega) only [ev_S, ev_P, ↓reduceIte, Nat.reduceEqDiff, Nat.reduceLeDiff, Nat.reduceAdd, Nat.reduceMul, Nat.reduceSub, reduceCtorEq, l32_0, l32_1, l32_2, l32_3, l32_4, l32_5, l32_6, l32_7, l32_8, l32_9, l32_10, e6', br, l32_14]
          · show (if q = 10 then _ else if q = 9 then _ else s.1 q) = _
            rw [if_neg (by omega), if_neg (by omega)]
  · right
    rw [if_neg c3'] at isN
    obtain ⟨t', s', a1, a2, a3, a4, a5⟩ := p_wrong (N := N) (X := X) h
    have a1' : cf_202 N X (Int32.ofNat 0) (Int32.ofNat 2) t = some (t', .inr ()) := a1
    refine ⟨t', s', ?_, ?_, a3, a4.mono (by omega) (fun _ z => z.elim), ⟨fun q r => a5.1 q (by omega), a5.2.1, a5.2.2.1, fun q r => a5.2.2.2 q (fun z => z)⟩⟩
    · unfold cf_195 cf_195_0 cf_195_8 cf_195_16 cf_195_17
      simp (disch := omega) only [ev_S, ev_C, ↓reduceIte, Nat.reduceEqDiff, Nat.reduceLeDiff, Nat.reduceAdd, Nat.reduceMul, Nat.reduceSub, reduceCtorEq, l32_0, l32_1, l32_2, l32_3, l32_4, l32_5, l32_6, l32_7, l32_8, l32_9, l32_10, e42, c3', a1', kx]
    · unfold mf_275 mf_275_0 mf_275_9 mf_275_13 mf_275_16 mf_275_20
      simp (disch := omega) only [ev_S, ev_P, ↓reduceIte, Nat.reduceEqDiff, Nat.reduceLeDiff, Nat.reduceAdd, Nat.reduceMul, Nat.reduceSub, reduceCtorEq, l32_0, l32_1, l32_2, l32_3, l32_4, l32_5, l32_6, l32_7, l32_8, l32_9, l32_10, h9, isN, a2]
end VAS
