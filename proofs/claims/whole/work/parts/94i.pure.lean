/-! ===== PURE: load (3): calls are bound ===== -/
/-- what is left, once a call is wrong -/
def BW (p e : Nat) (code : List Ins) (cl : List Cn) (Fs : List Fn) (t : cS) (s : mS) : Prop := (∃ LC, cCd t p LC ∧ LC.length = cx code) ∧ cCl t (cl.map (cK code)) ∧ rCl s (cl.map (rK e code)) ∧ cFt t p Fs.length code Fs ∧ rFt s e Fs.length code Fs ∧ (∀ x ∈ cl, s.2.2.1 23 (ob0 e + posR code x.1 + x.2.1) = (if (code.getD x.1 dI).1 = 9 then Int32.ofNat 9 else Int32.ofNat 11)) ∧ s.1 12 = Int32.ofNat e ∧ s.1 9 = Int32.ofNat 0
/-- a call fits -/
def fit (Fs : List Fn) (x : Cn) (m : Nat) : Prop := ∃ hm : m < Fs.length, Fs[m].2.2.1 = x.2.2.2.2
/-- as bindCalls changes the class -/
abbrev eBi : Nat → Nat → Prop := fun k f => k = 2 ∧ (f = 10 ∨ f = 11)
section BIN
variable {N : Nat} {X : Nat → Option zz_C} {t t' t1 t2 : cS} {s s' s1 s2 : mS} {b : Nat → Nat} {n p e i op c D m : Nat} {code code1 : List Ins} {cl : List Cn} {Fs : List Fn} {x : Cn}
/-- the reference seeks the name -/
theorem r_seek {q : Nat} {x1 : Int32} (he : e ≤ 1) (hF : okFn Fs) (hc12 : Fs.length ≤ 12) (h : rFt s e Fs.length code Fs) (hc : c < 800) (hn : s.2.2.2 33 c = Int64.ofNat (evB 27 x.2.2.1)) (ho : okL x.2.2.1) (h8 : x.2.2.1.length ≤ 8) (hm : m ≤ Fs.length) (h1 : ∀ j (hj : j < Fs.length), j < m → ¬ Fs[j].1 = x.2.2.1) (h2 : ∀ hm : m < Fs.length, Fs[m].1 = x.2.2.1) : mf_64_L3 N (q + (m + 1)) 1 x1 (Int32.ofNat c) (Int32.ofNat (fb0 e)) (Int32.ofNat (fb0 e + Fs.length)) s = mf_64_58 N (mf_64_L3 N q) x1 (Int32.ofNat c) (Int32.ofNat (fb0 e + m)) (Int32.ofNat (fb0 e + Fs.length)) s := by
  obtain ⟨-, a5⟩ := h
  have hv := evB_27 ho h8
  have hf : fb0 e ≤ 12 := by unfold fb0; omega
  have go : ∀ d j, j + d = m → mf_64_L3 N (q + (d + 1)) 1 x1 (Int32.ofNat c) (Int32.ofNat (fb0 e + j)) (Int32.ofNat (fb0 e + Fs.length)) s = mf_64_58 N (mf_64_L3 N q) x1 (Int32.ofNat c) (Int32.ofNat (fb0 e + m)) (Int32.ofNat (fb0 e + Fs.length)) s := by
    intro d
    induction d with
    | zero =>
      intro j hj
      have hj : j = m := hj
      subst hj
      show mf_64_30 N (mf_64_L3 N q) x1 (Int32.ofNat c) (Int32.ofNat (fb0 e + j)) (Int32.ofNat (fb0 e + Fs.length)) s = _
      by_cases z : j < Fs.length
      · have y := (a5 j z).1
        rw [h2 z] at y
        have n1 : ¬ fb0 e + Fs.length ≤ fb0 e + j := by omega
        generalize fb0 e = o at *
        unfold mf_64_30 mf_64_36
        simp (disch := omega) only [ev_S, ev_P, ↓reduceIte, Nat.reduceEqDiff, Nat.reduceLeDiff, Nat.reduceAdd, Nat.reduceMul, Nat.reduceSub, reduceCtorEq, l32_0, l32_1, l32_2, l32_3, l32_4, l32_5, l32_6, l32_7, l32_8, l32_9, l32_10, l32_11, l32_12, l32_13, l32_14, l32_15, l32_16, l32_17, l32_18, l32_19, l32_20, l32_21, l32_22, l32_23, l32_24, l32_25, l32_26, l32_27, l32_28, l32_29, l32_33, l32_40, l32_41, l32_44, l32_45, l32_59, l32_61, l32_91, l32_93, l32_123, l32_125, y, hn, lg_eq0, n1, l32_800]
      · have n1 : fb0 e + Fs.length ≤ fb0 e + j := by omega
        generalize fb0 e = o at *
        unfold mf_64_30
        simp (disch := omega) only [ev_S, ev_P, ↓reduceIte, Nat.reduceEqDiff, Nat.reduceLeDiff, Nat.reduceAdd, Nat.reduceMul, Nat.reduceSub, reduceCtorEq, l32_0, l32_1, l32_2, l32_3, l32_4, l32_5, l32_6, l32_7, l32_8, l32_9, l32_10, l32_11, l32_12, l32_13, l32_14, l32_15, l32_16, l32_17, l32_18, l32_19, l32_20, l32_21, l32_22, l32_23, l32_24, l32_25, l32_26, l32_27, l32_28, l32_29, l32_33, l32_40, l32_41, l32_44, l32_45, l32_59, l32_61, l32_91, l32_93, l32_123, l32_125, n1]
    | succ d ih =>
      intro j hj
      have hj1 : j < Fs.length := by omega
      have y := (a5 j hj1).1
      obtain ⟨y2, y3⟩ := hF Fs[j] (List.getElem_mem _)
      have hw := evB_27 y2 y3
      have hne : ¬ evB 27 Fs[j].1 = evB 27 x.2.2.1 := fun e => h1 j hj1 (by omega) (evB_inj (by decide) y2 ho e)
      rw [← ih (j + 1) (by omega)]
      show mf_64_30 N (mf_64_L3 N (q + (d + 1))) x1 (Int32.ofNat c) (Int32.ofNat (fb0 e + j)) (Int32.ofNat (fb0 e + Fs.length)) s = _
      have n1 : ¬ fb0 e + Fs.length ≤ fb0 e + j := by omega
      have n2 : fb0 e + (j + 1) = fb0 e + j + 1 := by omega
      generalize fb0 e = o at *
      unfold mf_64_30 mf_64_36 mf_64_52
      simp (disch := omega) only [ev_S, ev_P, ↓reduceIte, Nat.reduceEqDiff, Nat.reduceLeDiff, Nat.reduceAdd, Nat.reduceMul, Nat.reduceSub, reduceCtorEq, l32_0, l32_1, l32_2, l32_3, l32_4, l32_5, l32_6, l32_7, l32_8, l32_9, l32_10, l32_11, l32_12, l32_13, l32_14, l32_15, l32_16, l32_17, l32_18, l32_19, l32_20, l32_21, l32_22, l32_23, l32_24, l32_25, l32_26, l32_27, l32_28, l32_29, l32_33, l32_40, l32_41, l32_44, l32_45, l32_59, l32_61, l32_91, l32_93, l32_123, l32_125, y, hn, lg_eq0, hne, n1, n2, l32_800]
  exact go m 0 (Nat.zero_add _)
/-- one call, in the reference -/
theorem r_call1 {q : Nat} {x1 : Int32} (he : e ≤ 1) (hF : okFn Fs) (hc12 : Fs.length ≤ 12) (h : rFt s e Fs.length code Fs) (h12 : s.1 12 = Int32.ofNat e) (hcl : rCl s (cl.map (rK e code))) (hc : c < cl.length) (hx : okN code cl[c]) (hrl : posR code cl[c].1 + cl[c].2.1 < 3900) (hop : s.2.2.1 23 (ob0 e + posR code cl[c].1 + cl[c].2.1) = (if (code.getD cl[c].1 dI).1 = 9 then Int32.ofNat 9 else Int32.ofNat 11)) (hp4 : ∀ k (hk : k < Fs.length), Fs[k].2.2.1 ≤ 4) (hm : m ≤ Fs.length) (h1 : ∀ j (hj : j < Fs.length), j < m → ¬ Fs[j].1 = cl[c].2.2.1) (h2 : ∀ hm : m < Fs.length, Fs[m].1 = cl[c].2.2.1) : (fit Fs cl[c] m → (code.getD cl[c].1 dI).1 = 9 → mf_64_L3 N (q + (m + 1) + 1) 0 x1 (Int32.ofNat c) 0 0 s = mf_64_L3 N q 0 x1 (Int32.ofNat (c + 1)) 0 0 (mA s 24 (upd (s.2.2.1 24) (ob0 e + posR code cl[c].1 + cl[c].2.1) (Int32.ofNat (fb0 e + m))))) ∧ (fit Fs cl[c] m → (code.getD cl[c].1 dI).1 = 10 → mf_64_L3 N (q + (m + 1) + 1) 0 x1 (Int32.ofNat c) 0 0 s = mf_64_L3 N q 0 x1 (Int32.ofNat (c + 1)) 0 0 (mA s 25 (upd (s.2.2.1 25) (ob0 e + posR code cl[c].1 + cl[c].2.1) (Int32.ofNat (fb0 e + m))))) ∧ (¬ fit Fs cl[c] m → (x1 = -Int32.ofNat 1 ∨ ∃ y : Nat, y ≤ 1600 ∧ x1 = Int32.ofNat y) → mf_64_L3 N (q + (m + 1) + 1) 0 x1 (Int32.ofNat c) 0 0 s = mf_64_L3 N q 0 (if x1 = -Int32.ofNat 1 then Int32.ofNat cl[c].2.2.2.1 else if x1 ≤ Int32.ofNat cl[c].2.2.2.1 then x1 else Int32.ofNat cl[c].2.2.2.1) (Int32.ofNat (c + 1)) 0 0 s) := by
  have hlen : (cl.map (rK e code)).length = cl.length := List.length_map _
  have h29 : s.1 29 = Int32.ofNat cl.length := by rw [← hlen]; exact hcl.1
  have hle : cl.length ≤ 800 := by rw [← hlen]; exact hcl.2.1
  obtain ⟨q1, q2, q3, q4⟩ := hcl.2.2 c (by rw [hlen]; exact hc)
  rw [List.getElem_map] at q1 q2 q3 q4
  have q1 : s.2.2.1 30 c = Int32.ofNat (ob0 e + posR code cl[c].1 + cl[c].2.1) := q1
  have q2 : s.2.2.2 33 c = Int64.ofNat (evB 27 cl[c].2.2.1) := q2
  have q3 : s.2.2.1 32 c = Int32.ofNat cl[c].2.2.2.2 := q3
  have q4 : s.2.2.1 31 c = Int32.ofNat cl[c].2.2.2.1 := q4
  obtain ⟨x1', x2, x3, x4, x5, x6, x7⟩ := hx
  have hf : fb0 e ≤ 12 := by unfold fb0; omega
  have ho4 : ob0 e ≤ 4000 := by unfold ob0; omega
  have eb : Int32.ofNat 12 * (Int32.ofNat 1 - Int32.ofNat e) = Int32.ofNat (fb0 e) := by
    rw [ev_sub he]
    exact i32mul
  have n29 : ¬ cl.length ≤ c := by omega
  have hc8 : c < 800 := by omega
  have e0 : mf_64_L3 N (q + (m + 1) + 1) 0 x1 (Int32.ofNat c) 0 0 s = mf_64_58 N (mf_64_L3 N q) x1 (Int32.ofNat c) (Int32.ofNat (fb0 e + m)) (Int32.ofNat (fb0 e + Fs.length)) s := by
    rw [← r_seek (x := cl[c]) (m := m) he hF hc12 h hc8 q2 x2 x3 hm h1 h2]
    show mf_64_4 N (mf_64_L3 N (q + (m + 1))) x1 (Int32.ofNat c) s = _
    have e1 : mf_64_4 N (mf_64_L3 N (q + (m + 1))) x1 (Int32.ofNat c) s = mf_64_12 N (mf_64_L3 N (q + (m + 1))) x1 (Int32.ofNat c) s := by
      unfold mf_64_4
      simp (disch := omega) only [ev_S, ev_P, ↓reduceIte, Nat.reduceEqDiff, Nat.reduceLeDiff, Nat.reduceAdd, Nat.reduceMul, Nat.reduceSub, reduceCtorEq, l32_0, l32_1, l32_2, l32_3, l32_4, l32_5, l32_6, l32_7, l32_8, l32_9, l32_10, l32_11, l32_12, l32_13, l32_14, l32_15, l32_16, l32_17, l32_18, l32_19, l32_20, l32_21, l32_22, l32_23, l32_24, l32_25, l32_26, l32_27, l32_28, l32_29, l32_33, l32_40, l32_41, l32_44, l32_45, l32_59, l32_61, l32_91, l32_93, l32_123, l32_125, h29, n29]
    rw [e1]
    unfold mf_64_12
    rw [h12, h.1, l32_12, l32_1, eb, i32add]
  rw [e0]
  have hlt8 : ob0 e + posR code cl[c].1 + cl[c].2.1 < 8000 := by omega
  generalize ob0 e + posR code cl[c].1 + cl[c].2.1 = o at *
  refine ⟨fun hfit hk => ?_, fun hfit hk => ?_, fun hnf hx1 => ?_⟩
  · obtain ⟨hm', hpar⟩ := hfit
    have y := (h.2 m hm').2.2.1
    rw [hpar] at y
    have n1 : ¬ fb0 e + Fs.length ≤ fb0 e + m := by omega
    rw [if_pos hk] at hop
    have b30 : (mA s 24 (upd (s.2.2.1 24) o (Int32.ofNat (fb0 e + m)))).2.2.1 30 c = Int32.ofNat o := q1
    have b23 : (mA s 24 (upd (s.2.2.1 24) o (Int32.ofNat (fb0 e + m)))).2.2.1 23 o = Int32.ofNat 9 := hop
    generalize fb0 e = u at *
    generalize hsn : mA s 24 (upd (s.2.2.1 24) o (Int32.ofNat (u + m))) = sn at *
    unfold mf_64_58 mf_64_64 mf_64_79 mf_64_84 mf_64_112 mf_64_117 mf_64_133
    simp (disch := omega) only [ev_S, ev_P, ↓reduceIte, Nat.reduceEqDiff, Nat.reduceLeDiff, Nat.reduceAdd, Nat.reduceMul, Nat.reduceSub, reduceCtorEq, l32_0, l32_1, l32_2, l32_3, l32_4, l32_5, l32_6, l32_7, l32_8, l32_9, l32_10, l32_11, l32_12, l32_13, l32_14, l32_15, l32_16, l32_17, l32_18, l32_19, l32_20, l32_21, l32_22, l32_23, l32_24, l32_25, l32_26, l32_27, l32_28, l32_29, l32_33, l32_40, l32_41, l32_44, l32_45, l32_59, l32_61, l32_91, l32_93, l32_123, l32_125, n1, y, q3, q1, hop, hsn, l32_800, l32_8000]
    unfold mf_64_145 mf_64_150 mf_64_178
    simp (disch := omega) only [ev_S, ev_P, ↓reduceIte, Nat.reduceEqDiff, Nat.reduceLeDiff, Nat.reduceAdd, Nat.reduceMul, Nat.reduceSub, reduceCtorEq, l32_0, l32_1, l32_2, l32_3, l32_4, l32_5, l32_6, l32_7, l32_8, l32_9, l32_10, l32_11, l32_12, l32_13, l32_14, l32_15, l32_16, l32_17, l32_18, l32_19, l32_20, l32_21, l32_22, l32_23, l32_24, l32_25, l32_26, l32_27, l32_28, l32_29, l32_33, l32_40, l32_41, l32_44, l32_45, l32_59, l32_61, l32_91, l32_93, l32_123, l32_125, b30, b23, l32_800, l32_8000]
  · obtain ⟨hm', hpar⟩ := hfit
    have y := (h.2 m hm').2.2.1
    rw [hpar] at y
    have n1 : ¬ fb0 e + Fs.length ≤ fb0 e + m := by omega
    rw [if_neg (by omega)] at hop
    generalize fb0 e = u at *
    unfold mf_64_58 mf_64_64 mf_64_79 mf_64_84 mf_64_112 mf_64_117 mf_64_145 mf_64_150 mf_64_166 mf_64_178
    simp (disch := omega) only [ev_S, ev_P, ↓reduceIte, Nat.reduceEqDiff, Nat.reduceLeDiff, Nat.reduceAdd, Nat.reduceMul, Nat.reduceSub, reduceCtorEq, l32_0, l32_1, l32_2, l32_3, l32_4, l32_5, l32_6, l32_7, l32_8, l32_9, l32_10, l32_11, l32_12, l32_13, l32_14, l32_15, l32_16, l32_17, l32_18, l32_19, l32_20, l32_21, l32_22, l32_23, l32_24, l32_25, l32_26, l32_27, l32_28, l32_29, l32_33, l32_40, l32_41, l32_44, l32_45, l32_59, l32_61, l32_91, l32_93, l32_123, l32_125, n1, y, q3, q1, hop, l32_800, l32_8000]
  · have e1 : mf_64_58 N (mf_64_L3 N q) x1 (Int32.ofNat c) (Int32.ofNat (fb0 e + m)) (Int32.ofNat (fb0 e + Fs.length)) s = mf_64_91 N (mf_64_L3 N q) x1 (Int32.ofNat c) (Int32.ofNat (fb0 e + m)) (Int32.ofNat 0) s := by
      by_cases z : m < Fs.length
      · have y := (h.2 m z).2.2.1
        have hp := hp4 m z
        have hne : ¬ Fs[m].2.2.1 = cl[c].2.2.2.2 := fun q => hnf ⟨z, q⟩
        have n1 : ¬ fb0 e + Fs.length ≤ fb0 e + m := by omega
        generalize fb0 e = u at *
        unfold mf_64_58 mf_64_64 mf_64_83 mf_64_84
        simp (disch := omega) only [ev_S, ev_P, ↓reduceIte, Nat.reduceEqDiff, Nat.reduceLeDiff, Nat.reduceAdd, Nat.reduceMul, Nat.reduceSub, reduceCtorEq, l32_0, l32_1, l32_2, l32_3, l32_4, l32_5, l32_6, l32_7, l32_8, l32_9, l32_10, l32_11, l32_12, l32_13, l32_14, l32_15, l32_16, l32_17, l32_18, l32_19, l32_20, l32_21, l32_22, l32_23, l32_24, l32_25, l32_26, l32_27, l32_28, l32_29, l32_33, l32_40, l32_41, l32_44, l32_45, l32_59, l32_61, l32_91, l32_93, l32_123, l32_125, n1, y, q3, hne, l32_800]
      · have n1 : fb0 e + Fs.length ≤ fb0 e + m := by omega
        generalize fb0 e = u at *
        unfold mf_64_58 mf_64_83 mf_64_84
        simp (disch := omega) only [ev_S, ev_P, ↓reduceIte, Nat.reduceEqDiff, Nat.reduceLeDiff, Nat.reduceAdd, Nat.reduceMul, Nat.reduceSub, reduceCtorEq, l32_0, l32_1, l32_2, l32_3, l32_4, l32_5, l32_6, l32_7, l32_8, l32_9, l32_10, l32_11, l32_12, l32_13, l32_14, l32_15, l32_16, l32_17, l32_18, l32_19, l32_20, l32_21, l32_22, l32_23, l32_24, l32_25, l32_26, l32_27, l32_28, l32_29, l32_33, l32_40, l32_41, l32_44, l32_45, l32_59, l32_61, l32_91, l32_93, l32_123, l32_125, n1]
    rw [e1]
    generalize Int32.ofNat (fb0 e + m) = w at *
    have tail : ∀ v : Int32, mf_64_112 N (mf_64_L3 N q) v (Int32.ofNat c) w (Int32.ofNat 0) s = mf_64_L3 N q 0 v (Int32.ofNat (c + 1)) 0 0 s := fun v => by
      unfold mf_64_112 mf_64_145 mf_64_178
      simp (disch := omega) only [ev_S, ev_P, ↓reduceIte, Nat.reduceEqDiff, Nat.reduceLeDiff, Nat.reduceAdd, Nat.reduceMul, Nat.reduceSub, reduceCtorEq, l32_0, l32_1, l32_2, l32_3, l32_4, l32_5, l32_6, l32_7, l32_8, l32_9, l32_10, l32_11, l32_12, l32_13, l32_14, l32_15, l32_16, l32_17, l32_18, l32_19, l32_20, l32_21, l32_22, l32_23, l32_24, l32_25, l32_26, l32_27, l32_28, l32_29, l32_33, l32_40, l32_41, l32_44, l32_45, l32_59, l32_61, l32_91, l32_93, l32_123, l32_125]
    have r2 : (-Int32.ofNat 1 < Int32.ofNat 0) = True := by decide
    rcases hx1 with z | ⟨y, y1, y2⟩
    · subst z
      rw [if_pos rfl, ← tail]
      unfold mf_64_91 mf_64_105
      simp (disch := omega) only [ev_S, ev_P, ↓reduceIte, Nat.reduceEqDiff, Nat.reduceLeDiff, Nat.reduceAdd, Nat.reduceMul, Nat.reduceSub, reduceCtorEq, l32_0, l32_1, l32_2, l32_3, l32_4, l32_5, l32_6, l32_7, l32_8, l32_9, l32_10, l32_11, l32_12, l32_13, l32_14, l32_15, l32_16, l32_17, l32_18, l32_19, l32_20, l32_21, l32_22, l32_23, l32_24, l32_25, l32_26, l32_27, l32_28, l32_29, l32_33, l32_40, l32_41, l32_44, l32_45, l32_59, l32_61, l32_91, l32_93, l32_123, l32_125, r2, q4, l32_800]
    · subst y2
      have n1 : ¬ Int32.ofNat y = -Int32.ofNat 1 := by
        rw [ev_n5 (by omega)]
        exact fun q => q
      rw [if_neg n1]
      by_cases z : y ≤ cl[c].2.2.2.1
      · rw [if_pos ((i32le (by omega) (by omega)).mpr z), ← tail]
        unfold mf_64_91 mf_64_95
        simp (disch := omega) only [ev_S, ev_P, ↓reduceIte, Nat.reduceEqDiff, Nat.reduceLeDiff, Nat.reduceAdd, Nat.reduceMul, Nat.reduceSub, reduceCtorEq, l32_0, l32_1, l32_2, l32_3, l32_4, l32_5, l32_6, l32_7, l32_8, l32_9, l32_10, l32_11, l32_12, l32_13, l32_14, l32_15, l32_16, l32_17, l32_18, l32_19, l32_20, l32_21, l32_22, l32_23, l32_24, l32_25, l32_26, l32_27, l32_28, l32_29, l32_33, l32_40, l32_41, l32_44, l32_45, l32_59, l32_61, l32_91, l32_93, l32_123, l32_125, q4, z, l32_800]
      · rw [if_neg (fun q => z ((i32le (by omega) (by omega)).mp q)), ← tail]
        unfold mf_64_91 mf_64_95 mf_64_105
        simp (disch := omega) only [ev_S, ev_P, ↓reduceIte, Nat.reduceEqDiff, Nat.reduceLeDiff, Nat.reduceAdd, Nat.reduceMul, Nat.reduceSub, reduceCtorEq, l32_0, l32_1, l32_2, l32_3, l32_4, l32_5, l32_6, l32_7, l32_8, l32_9, l32_10, l32_11, l32_12, l32_13, l32_14, l32_15, l32_16, l32_17, l32_18, l32_19, l32_20, l32_21, l32_22, l32_23, l32_24, l32_25, l32_26, l32_27, l32_28, l32_29, l32_33, l32_40, l32_41, l32_44, l32_45, l32_59, l32_61, l32_91, l32_93, l32_123, l32_125, q4, z, l32_800]
/-- one call, in the class -/
theorem c_call1 {rc : Nat → Int32 → cS → kO} (hN : 170000 ≤ N) (hF : okFn Fs) (h : cFt t p Fs.length code Fs) (hcl : cCl t (cl.map (cK code))) (hP : kP t 2 1 = some p) (hpp : p = 12 ∨ p = 21) (hc : c < cl.length) (hle : cl.length ≤ 800) (hx : okN code cl[c]) (hp4 : ∀ k (hk : k < Fs.length), Fs[k].2.2.1 ≤ 4) (hm : m ≤ Fs.length) (h1 : ∀ j (hj : j < Fs.length), j < m → ¬ Fs[j].1 = cl[c].2.2.1) (h2 : ∀ hm : m < Fs.length, Fs[m].1 = cl[c].2.2.1) (hA : cf_210 N X p (cK code cl[c]).1 (if m < Fs.length then Int32.ofNat m else -1) t = some (t1, .inl none)) (g : gL (fun _ _ => False) (aC p) t t1) : (fit Fs cl[c] m → cf_38_2 N X rc (Int32.ofNat c) t = rc 0 (Int32.ofNat (c + 1)) t1) ∧ (¬ fit Fs cl[c] m → (kI t1 2 10 = Int32.ofNat 0 → cf_38_2 N X rc (Int32.ofNat c) t = rc 0 (Int32.ofNat (c + 1)) (jI (jI t1 2 10 (Int32.ofNat 6)) 2 11 (Int32.ofNat cl[c].2.2.2.1))) ∧ ∀ y : Nat, y ≤ 1600 → kI t1 2 10 = Int32.ofNat 6 → kI t1 2 11 = Int32.ofNat y → cf_38_2 N X rc (Int32.ofNat c) t = rc 0 (Int32.ofNat (c + 1)) (if y ≤ cl[c].2.2.2.1 then t1 else jI (jI t1 2 10 (Int32.ofNat 6)) 2 11 (Int32.ofNat cl[c].2.2.2.1))) := by
  have hlen : (cl.map (cK code)).length = cl.length := List.length_map _
  have hp : (p = 12 ∨ p = 21) = True := eq_true hpp
  have h9 : kI t 2 9 = Int32.ofNat cl.length := by rw [← hlen]; exact hcl.1
  obtain ⟨q1, q2, q3, q4⟩ := hcl.2.1 c (by rw [hlen]; exact hc)
  rw [List.getElem_map] at q1 q2 q3 q4
  have q2 : (kB t 9).2 c = Int64.ofNat (evB 32 cl[c].2.2.1) := q2
  have z9 : (kB t 9).1 = (kA t 8).1 := hcl.2.2.1
  have z10 : (kA t 10).1 = (kA t 8).1 := hcl.2.2.2.1
  have z11 : (kA t 11).1 = (kA t 8).1 := hcl.2.2.2.2.1
  have z8 : cl.length ≤ (kA t 8).1 := by rw [← hlen]; exact hcl.2.2.2.2.2.1
  have z8b : (kA t 8).1 < 13000 := hcl.2.2.2.2.2.2.2
  obtain ⟨x1', x2, x3, x4, x5, x6, x7⟩ := hx
  have nmO := c_numOf (N := N) (X := X) hN hpp h hF x2 x3 hm h1 h2
  have n9 : ¬ cl.length ≤ c := by omega
  have hP1 : kP t1 2 1 = some p := by rw [g.p21 (fun z => z)]; exact hP
  have k8 : ∀ k, (k = 8 ∨ k = 9 ∨ k = 10 ∨ k = 11 ∨ k = p + 6) → kA t1 k = kA t k ∧ kB t1 k = kB t k := fun k hk => by
    have := g.2.2.1 k (fun z => by rcases hpp with y | y <;> subst y <;> omega) (by rcases hpp with y | y <;> subst y <;> omega)
    exact ⟨this.1, this.2.1⟩
  have w11 : (kA t1 11).2 c = Int32.ofNat cl[c].2.2.2.2 := by rw [(k8 11 (by omega)).1]; exact q4
  have w10 : (kA t1 10).2 c = Int32.ofNat cl[c].2.2.2.1 := by rw [(k8 10 (by omega)).1]; exact q3
  have w11l : c < (kA t1 11).1 ∧ (kA t1 11).1 < 13000 := by rw [(k8 11 (by omega)).1, z11]; omega
  have w10l : c < (kA t1 10).1 ∧ (kA t1 10).1 < 13000 := by rw [(k8 10 (by omega)).1, z10]; omega
  -- what is told
  have told : ∃ v : Int32, cf_33 N X p (if m < Fs.length then Int32.ofNat m else -1) 0 t1 = some (t1, .inl (some (.int v))) ∧ ((v = Int32.ofNat cl[c].2.2.2.2) ↔ fit Fs cl[c] m) := by
    by_cases z : m < Fs.length
    · rw [if_pos z]
      have y := (h.2.2.2.2.2.2.2.2 m z).2.2.1
      rw [← (k8 (p + 6) (by omega)).1] at y
      have h4 : kI t1 p 4 = Int32.ofNat Fs.length := by rw [g.1 p 4 (fun z => z)]; exact h.1
      have h6 : (kA t1 (p + 6)).1 = 12 := by rw [(k8 (p + 6) (by omega)).1]; exact h.2.2.2.2.2.1
      have h12 := h.2.1
      have hpz := hp4 m z
      refine ⟨Int32.ofNat Fs[m].2.2.1, ?_, ⟨fun q => ⟨z, ofNat_inj (by omega) (by omega) q⟩, fun q => by obtain ⟨_, q⟩ := q; rw [q]⟩⟩
      have gg : (Int32.toInt (Int32.ofNat 0) < 0 ∨ 2 < Int32.toInt (Int32.ofNat 0)) = False := by decide
      unfold cf_33 cf_33_0 cf_33_4 cf_33_14 cf_33_40
      simp (disch := omega) only [ev_S, ev_C, ↓reduceIte, Nat.reduceEqDiff, Nat.reduceLeDiff, Nat.reduceAdd, Nat.reduceMul, Nat.reduceSub, reduceCtorEq, l32_0, l32_1, l32_2, l32_3, l32_4, l32_5, l32_6, l32_7, l32_8, l32_9, l32_10, l32_11, l32_12, l32_13, l32_14, l32_15, l32_16, l32_17, l32_18, l32_19, l32_20, l32_21, l32_22, l32_23, l32_24, l32_25, l32_26, l32_27, l32_28, l32_29, l32_33, l32_40, l32_41, l32_44, l32_45, l32_59, l32_61, l32_91, l32_93, l32_123, l32_125, hp, h4, gg, h6, y, z]
    · rw [if_neg z]
      refine ⟨-1, ?_, ⟨fun q => ?_, fun q => absurd q.1 z⟩⟩
      · have r2 : (-Int32.ofNat 1 < Int32.ofNat 0) = True := by decide
        have nm1 : (-1 : Int32) = -Int32.ofNat 1 := rfl
        unfold cf_33 cf_33_0 cf_33_12
        simp (disch := omega) only [ev_S, ev_C, ↓reduceIte, Nat.reduceEqDiff, Nat.reduceLeDiff, Nat.reduceAdd, Nat.reduceMul, Nat.reduceSub, reduceCtorEq, l32_0, l32_1, l32_2, l32_3, l32_4, l32_5, l32_6, l32_7, l32_8, l32_9, l32_10, l32_11, l32_12, l32_13, l32_14, l32_15, l32_16, l32_17, l32_18, l32_19, l32_20, l32_21, l32_22, l32_23, l32_24, l32_25, l32_26, l32_27, l32_28, l32_29, l32_33, l32_40, l32_41, l32_44, l32_45, l32_59, l32_61, l32_91, l32_93, l32_123, l32_125, nm1, r2]
      · have : (Int32.ofNat cl[c].2.2.2.2 = -Int32.ofNat 1) = False := ev_n5 (by omega)
        exact absurd (show Int32.ofNat cl[c].2.2.2.2 = -Int32.ofNat 1 from q.symm) (by rw [this]; exact fun q => q)
  obtain ⟨v, v1, v2⟩ := told
  have hA' : cf_210 N X p ((kA t 8).2 c) (if m < Fs.length then Int32.ofNat m else -1) t = some (t1, .inl none) := by rw [q1]; exact hA
  have e0 : cf_38_2 N X rc (Int32.ofNat c) t = (if ¬ v = Int32.ofNat cl[c].2.2.2.2 then cf_38_60 N X rc (Int32.ofNat c) t1 else cf_38_56 N X rc (Int32.ofNat c) t1) := by
    have v1 : cf_33 N X p (if m < Fs.length then Int32.ofNat m else -1) (Int32.ofNat 0) t1 = some (t1, .inl (some (.int v))) := v1
    generalize (if m < Fs.length then Int32.ofNat m else -1) = u at *
    unfold cf_38_2 cf_38_10 cf_38_23 cf_38_38 cf_38_47
    simp (disch := omega) only [ev_S, ev_C, ↓reduceIte, Nat.reduceEqDiff, Nat.reduceLeDiff, Nat.reduceAdd, Nat.reduceMul, Nat.reduceSub, reduceCtorEq, l32_0, l32_1, l32_2, l32_3, l32_4, l32_5, l32_6, l32_7, l32_8, l32_9, l32_10, l32_11, l32_12, l32_13, l32_14, l32_15, l32_16, l32_17, l32_18, l32_19, l32_20, l32_21, l32_22, l32_23, l32_24, l32_25, l32_26, l32_27, l32_28, l32_29, l32_33, l32_40, l32_41, l32_44, l32_45, l32_59, l32_61, l32_91, l32_93, l32_123, l32_125, h9, n9, hP, z9, q2, hp, nmO, hA', hP1, v1, w11]
  rw [e0]
  refine ⟨fun hf => ?_, fun hf => ⟨fun hz => ?_, fun y hy h10 h11 => ?_⟩⟩
  · rw [if_neg (fun q => q (v2.mpr hf))]
    unfold cf_38_56 cf_38_61 cf_38_102
    simp (disch := omega) only [ev_S, ev_C, ↓reduceIte, Nat.reduceEqDiff, Nat.reduceLeDiff, Nat.reduceAdd, Nat.reduceMul, Nat.reduceSub, reduceCtorEq, l32_0, l32_1, l32_2, l32_3, l32_4, l32_5, l32_6, l32_7, l32_8, l32_9, l32_10, l32_11, l32_12, l32_13, l32_14, l32_15, l32_16, l32_17, l32_18, l32_19, l32_20, l32_21, l32_22, l32_23, l32_24, l32_25, l32_26, l32_27, l32_28, l32_29, l32_33, l32_40, l32_41, l32_44, l32_45, l32_59, l32_61, l32_91, l32_93, l32_123, l32_125]
  · rw [if_pos (fun q => hf (v2.mp q))]
    unfold cf_38_60 cf_38_61 cf_38_66 cf_38_86 cf_38_102
    simp (disch := omega) only [ev_S, ev_C, ↓reduceIte, Nat.reduceEqDiff, Nat.reduceLeDiff, Nat.reduceAdd, Nat.reduceMul, Nat.reduceSub, reduceCtorEq, l32_0, l32_1, l32_2, l32_3, l32_4, l32_5, l32_6, l32_7, l32_8, l32_9, l32_10, l32_11, l32_12, l32_13, l32_14, l32_15, l32_16, l32_17, l32_18, l32_19, l32_20, l32_21, l32_22, l32_23, l32_24, l32_25, l32_26, l32_27, l32_28, l32_29, l32_33, l32_40, l32_41, l32_44, l32_45, l32_59, l32_61, l32_91, l32_93, l32_123, l32_125, hz, w10]
  · rw [if_pos (fun q => hf (v2.mp q))]
    by_cases z : y ≤ cl[c].2.2.2.1
    · rw [if_pos z]
      unfold cf_38_60 cf_38_61 cf_38_66 cf_38_73 cf_38_102
      simp (disch := omega) only [ev_S, ev_C, ↓reduceIte, Nat.reduceEqDiff, Nat.reduceLeDiff, Nat.reduceAdd, Nat.reduceMul, Nat.reduceSub, reduceCtorEq, l32_0, l32_1, l32_2, l32_3, l32_4, l32_5, l32_6, l32_7, l32_8, l32_9, l32_10, l32_11, l32_12, l32_13, l32_14, l32_15, l32_16, l32_17, l32_18, l32_19, l32_20, l32_21, l32_22, l32_23, l32_24, l32_25, l32_26, l32_27, l32_28, l32_29, l32_33, l32_40, l32_41, l32_44, l32_45, l32_59, l32_61, l32_91, l32_93, l32_123, l32_125, h10, h11, w10, z]
    · rw [if_neg z]
      unfold cf_38_60 cf_38_61 cf_38_66 cf_38_73 cf_38_86 cf_38_102
      simp (disch := omega) only [ev_S, ev_C, ↓reduceIte, Nat.reduceEqDiff, Nat.reduceLeDiff, Nat.reduceAdd, Nat.reduceMul, Nat.reduceSub, reduceCtorEq, l32_0, l32_1, l32_2, l32_3, l32_4, l32_5, l32_6, l32_7, l32_8, l32_9, l32_10, l32_11, l32_12, l32_13, l32_14, l32_15, l32_16, l32_17, l32_18, l32_19, l32_20, l32_21, l32_22, l32_23, l32_24, l32_25, l32_26, l32_27, l32_28, l32_29, l32_33, l32_40, l32_41, l32_44, l32_45, l32_59, l32_61, l32_91, l32_93, l32_123, l32_125, h10, h11, w10, z]
end BIN
