/-! ===== PURE: the class's heap, read and gathered ===== -/
theorem lg2 {a b : Nat} (ha : 1 ≤ a) (h : 2 * a ≤ b) : Nat.log2 a + 1 ≤ Nat.log2 b := by
  have h1 : 2 ^ Nat.log2 a ≤ a := Nat.log2_self_le (by omega)
  exact (Nat.le_log2 (by omega)).mpr (by rw [Nat.pow_succ]; omega)
theorem lg20 {a : Nat} (h : a < 1000000) : Nat.log2 a ≤ 19 := by
  by_cases e : a = 0
  · rw [e]
    decide
  · have h1 : 2 ^ Nat.log2 a ≤ a := Nat.log2_self_le e
    by_cases c : Nat.log2 a ≤ 19
    · exact c
    · have : 2 ^ 20 ≤ 2 ^ Nat.log2 a := Nat.pow_le_pow_right (by decide) (by omega)
      have e2 : (2 : Nat) ^ 20 = 1048576 := by decide
      omega
theorem updL_s {f : Nat → Int64} {i : Nat} {v : Int64} : vp_updL f i v i = v := if_pos rfl
theorem updL_n {f : Nat → Int64} {i j : Nat} {v : Int64} (h : ¬ j = i) : vp_updL f i v j = f j := if_neg h
theorem kcp_lt {α : Type} {z : α} {f : Nat → α} {n i : Nat} (h : i < n) : kcp z f n i = f i := by
  unfold kcp va_cpy
  simp only [Nat.zero_le, Nat.zero_add, Nat.sub_zero, h, and_self, ↓reduceIte]
theorem lgc2 {a b : Nat} (ha : 1 ≤ a) (h : 2 * a ≤ b) (hb : b < 1000000) : lgc a + 1 ≤ lgc b := by
  have h1 := lg2 ha h
  have h2 := lg20 hb
  unfold lgc
  rw [show Nat.min 19 (Nat.log2 b) = Nat.log2 b from Nat.min_eq_right h2]
  have : Nat.min 19 (Nat.log2 a) ≤ Nat.log2 a := Nat.min_le_right _ _
  omega
section CHR
variable {N : Nat} {X : Nat → Option zz_C} {t : cS} {u w : Nat} {v : Int64} {x : Nod}
abbrev cel (t : cS) : Nat → Int64 := (kB t 43).2
abbrev prt (t : cS) : Nat → Int64 := (kB t 44).2
theorem c_thing {k a : Int32} : cf_253 N X k a t = some (t, .inl (some (.long (tg k a)))) := rfl
theorem c_kindOf {k a : Int32} : cf_255 N X (tg k a) t = some (t, .inl (some (.int k))) := by
  repeat ((first | unfold cf_255 | unfold cf_255_0); try simp (disch := omega) only [ev_S, ev_C, ↓reduceIte, Nat.reduceEqDiff, Nat.reduceLeDiff, Nat.reduceAdd, Nat.reduceMul, Nat.reduceSub, reduceCtorEq, l32_0, l32_1, l32_2, l32_3, l32_4, l32_32, l32_63, tg_k'])
theorem c_lowOf {k a : Int32} : cf_256 N X (tg k a) t = some (t, .inl (some (.int a))) := by
  repeat ((first | unfold cf_256 | unfold cf_256_0); try simp (disch := omega) only [ev_S, ev_C, ↓reduceIte, Nat.reduceEqDiff, Nat.reduceLeDiff, Nat.reduceAdd, Nat.reduceMul, Nat.reduceSub, reduceCtorEq, l32_0, l32_1, l32_2, l32_3, l32_4, tg_low])
theorem c_gathered (h : cHp t u w) : cf_122 N X t = some (t, .inl (some (.int (Int32.ofNat w)))) := by
  have e := h.2.1
  repeat ((first | unfold cf_122 | unfold cf_122_0); try simp (disch := omega) only [ev_S, ev_C, ↓reduceIte, Nat.reduceEqDiff, Nat.reduceLeDiff, Nat.reduceAdd, Nat.reduceMul, Nat.reduceSub, reduceCtorEq, l32_0, l32_1, l32_2, l32_3, l32_4, l32_42, e])
/-- its kind stands above -/
theorem cV.tg {v' : Vw} (h : cV (cel t) u v v') : ∃ a : Int32, v = tg (kdV v') a := by
  obtain z | r | q | ⟨n, l⟩ := v'
  · exact ⟨z, h⟩
  · obtain ⟨a, h, -⟩ := h
    exact ⟨_, h⟩
  · obtain ⟨a, h, -⟩ := h
    exact ⟨_, h⟩
  · obtain ⟨a, h, -⟩ := h
    exact ⟨_, h⟩
theorem c_kind (h : cN (cel t) u v x) : cf_255 N X v t = some (t, .inl (some (.int (kdV (vw x))))) := by
  obtain ⟨a, e⟩ := (cN_iff.mp h).tg
  rw [e, c_kindOf]
theorem c_size (hh : cHp t u w) (h : cN (cel t) u v x) : cf_128 N X v t = some (t, .inl (some (.int (Int32.ofNat (szV (vw x)))))) := by
  obtain ⟨h1, h2, h3, h4, h5, h6, h7, h8, h9⟩ := hh
  have h := cN_iff.mp h
  generalize vw x = V at h
  obtain z | r | q | ⟨n, l⟩ := V
  · have h : v = tg 0 z := h
    rw [h]
    repeat ((first | unfold cf_128 | unfold cf_128_0 | unfold cf_128_15 | unfold cf_128_20 | unfold cf_128_25 | unfold cf_128_34 | unfold cf_128_38 | unfold cf_128_46); try simp (disch := omega) only [ev_S, ev_C, ↓reduceIte, Nat.reduceEqDiff, Nat.reduceLeDiff, Nat.reduceAdd, Nat.reduceMul, Nat.reduceSub, reduceCtorEq, l32_0, l32_1, l32_2, l32_3, l32_4, l32_32, l32_42, l32_43, l32_63, tg_k', tg_low, szV])
  · obtain ⟨a, h, g1, g2, g3⟩ := h
    rw [h]
    have g2 : (kB t 43).2 a = _ := g2
    repeat ((first | unfold cf_128 | unfold cf_128_0 | unfold cf_128_15 | unfold cf_128_20 | unfold cf_128_25 | unfold cf_128_34 | unfold cf_128_38 | unfold cf_128_46); try simp (disch := omega) only [ev_S, ev_C, ↓reduceIte, Nat.reduceEqDiff, Nat.reduceLeDiff, Nat.reduceAdd, Nat.reduceMul, Nat.reduceSub, reduceCtorEq, l32_0, l32_1, l32_2, l32_3, l32_4, l32_32, l32_42, l32_43, l32_63, tg_k', tg_low, szV, h1, g2, i64_32])
  · obtain ⟨a, h, g1, g2, g3⟩ := h
    rw [h]
    have g2 : (kB t 43).2 a = _ := g2
    repeat ((first | unfold cf_128 | unfold cf_128_0 | unfold cf_128_15 | unfold cf_128_20 | unfold cf_128_25 | unfold cf_128_34 | unfold cf_128_38 | unfold cf_128_46); try simp (disch := omega) only [ev_S, ev_C, ↓reduceIte, Nat.reduceEqDiff, Nat.reduceLeDiff, Nat.reduceAdd, Nat.reduceMul, Nat.reduceSub, reduceCtorEq, l32_0, l32_1, l32_2, l32_3, l32_4, l32_32, l32_42, l32_43, l32_63, tg_k', tg_low, szV, h1, g2, i64_32])
  · obtain ⟨a, h, g1, g2, g3⟩ := h
    rw [h]
    have g2 : (kB t 43).2 a = _ := g2
    repeat ((first | unfold cf_128 | unfold cf_128_0 | unfold cf_128_15 | unfold cf_128_20 | unfold cf_128_25 | unfold cf_128_34 | unfold cf_128_38 | unfold cf_128_46); try simp (disch := omega) only [ev_S, ev_C, ↓reduceIte, Nat.reduceEqDiff, Nat.reduceLeDiff, Nat.reduceAdd, Nat.reduceMul, Nat.reduceSub, reduceCtorEq, l32_0, l32_1, l32_2, l32_3, l32_4, l32_32, l32_42, l32_43, l32_63, tg_k', tg_low, szV, h1, g2, i64_32])
/-- the part at i: of a ROW, of a TABLE, of a PACK -/
theorem c_partR (hh : cHp t u w) {r : List Int32} {i : Nat} (h : cV (cel t) u v (vR r)) (hi : i < r.length) : cf_129 N X v (Int32.ofNat i) t = some (t, .inl (some (.long (tg 0 r[i])))) := by
  obtain ⟨h1, h2, h3, h4, h5, h6, h7, h8, h9⟩ := hh
  obtain ⟨a, h, g1, g2, g3⟩ := h
  rw [h]
  have g3 : (kB t 43).2 (a + 1 + i) = _ := g3 i hi
  repeat ((first | unfold cf_129 | unfold cf_129_0 | unfold cf_129_22 | unfold cf_129_28 | unfold cf_129_33 | unfold cf_129_42 | unfold cf_129_44 | unfold cf_129_50 | unfold cf_129_60 | unfold cf_129_75); try simp (disch := omega) only [ev_S, ev_C, ↓reduceIte, Nat.reduceEqDiff, Nat.reduceLeDiff, Nat.reduceAdd, Nat.reduceMul, Nat.reduceSub, reduceCtorEq, l32_0, l32_1, l32_2, l32_3, l32_4, l32_32, l32_42, l32_43, l32_63, tg_k', tg_low, h1, g3, i64_32, c_thing])
theorem c_partT (hh : cHp t u w) {q : List (List Int32)} {i : Nat} (h : cV (cel t) u v (vT q)) (hi : i < q.length) : ∃ v', cf_129 N X v (Int32.ofNat i) t = some (t, .inl (some (.long v'))) ∧ cN (cel t) u v' (nR q[i]) := by
  obtain ⟨h1, h2, h3, h4, h5, h6, h7, h8, h9⟩ := hh
  obtain ⟨a, h, g1, g2, g3, g4⟩ := h
  rw [h]
  obtain ⟨b, b1, b2⟩ := g4 i hi
  have b1 : (kB t 43).2 (a + 2 + i) = _ := b1
  refine ⟨tg 1 (Int32.ofNat b), ?_, ⟨b, rfl, b2⟩⟩
  repeat ((first | unfold cf_129 | unfold cf_129_0 | unfold cf_129_22 | unfold cf_129_28 | unfold cf_129_33 | unfold cf_129_42 | unfold cf_129_44 | unfold cf_129_50 | unfold cf_129_60 | unfold cf_129_75); try simp (disch := omega) only [ev_S, ev_C, ↓reduceIte, Nat.reduceEqDiff, Nat.reduceLeDiff, Nat.reduceAdd, Nat.reduceMul, Nat.reduceSub, reduceCtorEq, l32_0, l32_1, l32_2, l32_3, l32_4, l32_32, l32_42, l32_43, l32_63, tg_k', tg_low, h1, b1, i64_32, c_thing])
theorem c_partP (hh : cHp t u w) {n : Nat} {l : List (Th n)} {i : Nat} (h : cV (cel t) u v (vP n l)) (hi : i < l.length) : ∃ v', cf_129 N X v (Int32.ofNat i) t = some (t, .inl (some (.long v'))) ∧ cN (cel t) u v' ⟨n, l[i]⟩ := by
  obtain ⟨h1, h2, h3, h4, h5, h6, h7, h8, h9⟩ := hh
  obtain ⟨a, h, g1, g2, g3, g4, g5⟩ := h
  rw [h]
  refine ⟨(kB t 43).2 (a + 3 + i), ?_, g5 i hi⟩
  repeat ((first | unfold cf_129 | unfold cf_129_0 | unfold cf_129_22 | unfold cf_129_28 | unfold cf_129_33 | unfold cf_129_42 | unfold cf_129_44 | unfold cf_129_50 | unfold cf_129_60 | unfold cf_129_75); try simp (disch := omega) only [ev_S, ev_C, ↓reduceIte, Nat.reduceEqDiff, Nat.reduceLeDiff, Nat.reduceAdd, Nat.reduceMul, Nat.reduceSub, reduceCtorEq, l32_0, l32_1, l32_2, l32_3, l32_4, l32_32, l32_42, l32_43, l32_63, tg_k', tg_low, h1])
theorem c_intAt (hh : cHp t u w) {r : List Int32} {i : Nat} (h : cV (cel t) u v (vR r)) (hi : i < r.length) : cf_130 N X v (Int32.ofNat i) t = some (t, .inl (some (.int r[i]))) := by
  obtain ⟨h1, h2, h3, h4, h5, h6, h7, h8, h9⟩ := hh
  obtain ⟨a, h, g1, g2, g3⟩ := h
  rw [h]
  have g3 : (kB t 43).2 (a + 1 + i) = _ := g3 i hi
  repeat ((first | unfold cf_130 | unfold cf_130_0 | unfold cf_130_9 | unfold cf_130_12 | unfold cf_130_25 | unfold cf_130_34 | unfold cf_130_45 | unfold cf_130_46); try simp (disch := omega) only [ev_S, ev_C, ↓reduceIte, Nat.reduceEqDiff, Nat.reduceLeDiff, Nat.reduceAdd, Nat.reduceMul, Nat.reduceSub, reduceCtorEq, l32_0, l32_1, l32_2, l32_3, l32_4, l32_32, l32_42, l32_43, l32_63, tg_s', lg_0, tg_low, h1, g3, i64_32, c_thing])
theorem c_intAt0 {z : Int32} {i : Int32} : cf_130 N X (tg 0 z) i t = some (t, .inl (some (.int z))) := by
  repeat ((first | unfold cf_130 | unfold cf_130_0 | unfold cf_130_9 | unfold cf_130_12 | unfold cf_130_25 | unfold cf_130_34 | unfold cf_130_45 | unfold cf_130_46); try simp (disch := omega) only [ev_S, ev_C, ↓reduceIte, Nat.reduceEqDiff, Nat.reduceLeDiff, Nat.reduceAdd, Nat.reduceMul, Nat.reduceSub, reduceCtorEq, l32_0, l32_1, l32_2, l32_3, l32_4, l32_32, l32_42, l32_43, l32_63, tg_s', lg_0, tg_low])
theorem c_bulk (hh : cHp t u w) (h : cN (cel t) u v x) : cf_134 N X v t = some (t, .inl (some (.int (Int32.ofNat (bulkN x))))) := by
  obtain ⟨h1, h2, h3, h4, h5, h6, h7, h8, h9⟩ := hh
  have h := cN_iff.mp h
  rw [vw_bulk]
  generalize vw x = V at h
  obtain z | r | q | ⟨n, l⟩ := V
  · have h : v = tg 0 z := h
    rw [h]
    repeat ((first | unfold cf_134 | unfold cf_134_0 | unfold cf_134_15 | unfold cf_134_20 | unfold cf_134_25 | unfold cf_134_34 | unfold cf_134_36 | unfold cf_134_41 | unfold cf_134_52 | unfold cf_134_56 | unfold cf_134_66 | unfold cf_134_73 | unfold cf_134_78 | unfold cf_134_91); try simp (disch := omega) only [ev_S, ev_C, ↓reduceIte, Nat.reduceEqDiff, Nat.reduceLeDiff, Nat.reduceAdd, Nat.reduceMul, Nat.reduceSub, reduceCtorEq, l32_0, l32_1, l32_2, l32_3, l32_4, l32_32, l32_42, l32_43, l32_63, tg_k', tg_low, bulkV])
  · obtain ⟨a, h, g1, g2, g3⟩ := h
    rw [h]
    have g2 : (kB t 43).2 a = _ := g2
    repeat ((first | unfold cf_134 | unfold cf_134_0 | unfold cf_134_15 | unfold cf_134_20 | unfold cf_134_25 | unfold cf_134_34 | unfold cf_134_36 | unfold cf_134_41 | unfold cf_134_52 | unfold cf_134_56 | unfold cf_134_66 | unfold cf_134_73 | unfold cf_134_78 | unfold cf_134_91); try simp (disch := omega) only [ev_S, ev_C, ↓reduceIte, Nat.reduceEqDiff, Nat.reduceLeDiff, Nat.reduceAdd, Nat.reduceMul, Nat.reduceSub, reduceCtorEq, l32_0, l32_1, l32_2, l32_3, l32_4, l32_32, l32_42, l32_43, l32_63, tg_k', tg_low, bulkV, h1, g2, i64_32])
    rfl
  · obtain ⟨a, h, g1, g2, g3, g4⟩ := h
    rw [h]
    have g2 : (kB t 43).2 a = _ := g2
    have g3 : (kB t 43).2 (a + 1) = _ := g3
    repeat ((first | unfold cf_134 | unfold cf_134_0 | unfold cf_134_15 | unfold cf_134_20 | unfold cf_134_25 | unfold cf_134_34 | unfold cf_134_36 | unfold cf_134_41 | unfold cf_134_52 | unfold cf_134_56 | unfold cf_134_66 | unfold cf_134_73 | unfold cf_134_78 | unfold cf_134_91); try simp (disch := omega) only [ev_S, ev_C, ↓reduceIte, Nat.reduceEqDiff, Nat.reduceLeDiff, Nat.reduceAdd, Nat.reduceMul, Nat.reduceSub, reduceCtorEq, l32_0, l32_1, l32_2, l32_3, l32_4, l32_32, l32_42, l32_43, l32_63, tg_k', tg_low, bulkV, h1, g2, g3, i64_32])
    rw [sum_add, sum_c]
    have e : 1 + q.length + (q.map List.length).sum = 1 + (1 * q.length + (q.map List.length).sum) := by omega
    rw [e]
  · obtain ⟨a, h, g1, g2, g3, g4⟩ := h
    rw [h]
    have g2 : (kB t 43).2 a = _ := g2
    have g3 : (kB t 43).2 (a + 1) = _ := g3
    repeat ((first | unfold cf_134 | unfold cf_134_0 | unfold cf_134_15 | unfold cf_134_20 | unfold cf_134_25 | unfold cf_134_34 | unfold cf_134_36 | unfold cf_134_41 | unfold cf_134_52 | unfold cf_134_56 | unfold cf_134_66 | unfold cf_134_73 | unfold cf_134_78 | unfold cf_134_91); try simp (disch := omega) only [ev_S, ev_C, ↓reduceIte, Nat.reduceEqDiff, Nat.reduceLeDiff, Nat.reduceAdd, Nat.reduceMul, Nat.reduceSub, reduceCtorEq, l32_0, l32_1, l32_2, l32_3, l32_4, l32_32, l32_42, l32_43, l32_63, tg_k', tg_low, bulkV, h1, g2, g3, i64_32])
theorem c_depth (hh : cHp t u w) (h : cN (cel t) u v x) : cf_135 N X v t = some (t, .inl (some (.int (Int32.ofNat (dN x))))) := by
  obtain ⟨h1, h2, h3, h4, h5, h6, h7, h8, h9⟩ := hh
  have h := cN_iff.mp h
  have hd := dN_0 (x := x)
  have hp := fun n l => dN_P (x := x) (n := n) (l := l)
  generalize vw x = V at h hd hp
  obtain z | r | q | ⟨n, l⟩ := V
  · have h : v = tg 0 z := h
    rw [h, hd (show ¬ (0 : Int32) = 3 by decide)]
    repeat ((first | unfold cf_135 | unfold cf_135_0 | unfold cf_135_16 | unfold cf_135_20 | unfold cf_135_28 | unfold cf_135_38 | unfold cf_135_39); try simp (disch := omega) only [ev_S, ev_C, ↓reduceIte, Nat.reduceEqDiff, Nat.reduceLeDiff, Nat.reduceAdd, Nat.reduceMul, Nat.reduceSub, reduceCtorEq, l32_0, l32_1, l32_2, l32_3, l32_4, l32_32, l32_42, l32_43, l32_63, tg_s', lg_3, tg_low])
  · obtain ⟨a, h, -⟩ := h
    rw [h, hd (show ¬ (1 : Int32) = 3 by decide)]
    repeat ((first | unfold cf_135 | unfold cf_135_0 | unfold cf_135_16 | unfold cf_135_20 | unfold cf_135_28 | unfold cf_135_38 | unfold cf_135_39); try simp (disch := omega) only [ev_S, ev_C, ↓reduceIte, Nat.reduceEqDiff, Nat.reduceLeDiff, Nat.reduceAdd, Nat.reduceMul, Nat.reduceSub, reduceCtorEq, l32_0, l32_1, l32_2, l32_3, l32_4, l32_32, l32_42, l32_43, l32_63, tg_s', lg_3, tg_low])
  · obtain ⟨a, h, -⟩ := h
    rw [h, hd (show ¬ (2 : Int32) = 3 by decide)]
    repeat ((first | unfold cf_135 | unfold cf_135_0 | unfold cf_135_16 | unfold cf_135_20 | unfold cf_135_28 | unfold cf_135_38 | unfold cf_135_39); try simp (disch := omega) only [ev_S, ev_C, ↓reduceIte, Nat.reduceEqDiff, Nat.reduceLeDiff, Nat.reduceAdd, Nat.reduceMul, Nat.reduceSub, reduceCtorEq, l32_0, l32_1, l32_2, l32_3, l32_4, l32_32, l32_42, l32_43, l32_63, tg_s', lg_3, tg_low])
  · obtain ⟨a, h, g1, g2, g3, g4, -⟩ := h
    rw [h, hp n l rfl]
    have g4 : (kB t 43).2 (a + 2) = _ := g4
    repeat ((first | unfold cf_135 | unfold cf_135_0 | unfold cf_135_16 | unfold cf_135_20 | unfold cf_135_28 | unfold cf_135_38 | unfold cf_135_39); try simp (disch := omega) only [ev_S, ev_C, ↓reduceIte, Nat.reduceEqDiff, Nat.reduceLeDiff, Nat.reduceAdd, Nat.reduceMul, Nat.reduceSub, reduceCtorEq, l32_0, l32_1, l32_2, l32_3, l32_4, l32_32, l32_42, l32_43, l32_63, tg_s', lg_3, tg_low, h1, g4, i64_32])
/-- one more part gathered -/
theorem c_put1 (hh : cHp t u w) (hw : w < 61000) : ∃ t', cf_123 N X v t = some (t', .inl none) ∧ cHp t' u (w + 1) ∧ hfr t t' ∧ kB t' 43 = kB t 43 ∧ prt t' w = v ∧ (∀ y, y < w → prt t' y = prt t y) := by
  obtain ⟨h1, h2, h3, h4, h5, h6, h7, h8, h9⟩ := hh
  have hk9 := h9.k
  by_cases c : w = (kB t 44).1
  · have hl := lgc2 (a := (kB t 44).1) (b := 2 * w) h5 (by omega) (by omega)
    have h9a := h9.1
    unfold pot at h9a
    have hm : Nat.min w (2 * w) = w := Nat.min_eq_left (by omega)
    refine ⟨jI (jB (jMv (jNL t (2 * w) (kcp 0 (kB t 44).2 w)) 44) 44 (vp_updL (kcp 0 (kB t 44).2 w) w v)) 42 3 (Int32.ofNat (w + 1)), ?_, ⟨h1, rfl, h3, ?_, ?_, h6, h7, ?_, ?_⟩, ⟨fun k f r => if_neg (fun q => r ⟨q.1, Or.inr q.2⟩), rfl, rfl, fun k r1 r2 r3 => ⟨?_, ?_, ?_⟩, rfl, rfl, ?_, ?_, ?_⟩, rfl, if_pos rfl, fun y hy => ?_⟩
    · have c' : (kB t 44).1 = w := c.symm
      repeat ((first | unfold cf_123 | unfold cf_123_0 | unfold cf_123_12 | unfold cf_123_29); try simp (disch := omega) only [ev_S, ev_C, ↓reduceIte, Nat.reduceEqDiff, Nat.reduceLeDiff, Nat.reduceAdd, Nat.reduceMul, Nat.reduceSub, reduceCtorEq, l32_0, l32_1, l32_2, l32_3, l32_4, l32_42, l32_44, h2, c', hm])
    · show w + 1 ≤ 2 * w
      omega
    · show 1 ≤ 2 * w
      omega
    · show 2 * w < 130000
      omega
    · refine ⟨?_, h9.2⟩
      show kN t + 1 + 200 < zz_out + (lgc (kB t 43).1 + lgc (2 * w) + (kA t 46).1 / 64 + lgc (kB t 52).1 + lgc (kA t 55).1 + lgc (kA t 56).1 + lgc (kA t 57).1)
      omega
    · show (if k = 44 then kA (jNL t (2 * w) (kcp 0 (kB t 44).2 w)) 111 else kA t k) = _
      exact if_neg r2
    · show (if k = 44 then _ else (if k = 44 then _ else (if k = 111 then _ else kB t k))) = _
      rw [if_neg r2, if_neg r2, if_neg r3]
    · show (if k = 44 then _ else (if k = 111 then _ else kD t k)) = _
      rw [if_neg r2, if_neg r3]
    · show kN t ≤ kN t + 1
      omega
    · show kN t + 1 + pot t ≤ kN t + (lgc (kB t 43).1 + lgc (2 * w) + (kA t 46).1 / 64 + lgc (kB t 52).1 + lgc (kA t 55).1 + lgc (kA t 56).1 + lgc (kA t 57).1)
      unfold pot
      omega
    · show kQ t + 2 * w + poq t ≤ kQ t + (2 * (kB t 43).1 + 2 * (2 * w) + 17 * (kA t 46).1 + 2 * (kB t 52).1 + 2 * (kA t 55).1 + 2 * (kA t 56).1 + 2 * (kA t 57).1)
      unfold poq
      omega
    · show vp_updL (kcp 0 (kB t 44).2 w) w v y = _
      rw [updL_n (by omega), kcp_lt hy]
  · have hw2 : w < (kB t 44).1 := by omega
    refine ⟨jI (jB t 44 (vp_updL (kB t 44).2 w v)) 42 3 (Int32.ofNat (w + 1)), ?_, ⟨h1, rfl, h3, hw2, h5, h6, h7, h8, h9⟩, ⟨fun k f r => if_neg (fun q => r ⟨q.1, Or.inr q.2⟩), rfl, rfl, fun k r1 r2 r3 => ⟨rfl, if_neg r2, rfl⟩, rfl, rfl, Nat.le_refl _, Nat.le_refl _, Nat.le_refl _⟩, rfl, if_pos rfl, fun y hy => updL_n (by omega)⟩
    repeat ((first | unfold cf_123 | unfold cf_123_0 | unfold cf_123_12 | unfold cf_123_29); try simp (disch := omega) only [ev_S, ev_C, ↓reduceIte, Nat.reduceEqDiff, Nat.reduceLeDiff, Nat.reduceAdd, Nat.reduceMul, Nat.reduceSub, reduceCtorEq, l32_0, l32_1, l32_2, l32_3, l32_4, l32_42, l32_44, h2])
/-- a list gathered from f on -/
def gth (t : cS) (f : Nat) (vs : List Int64) : Prop := ∀ i (hi : i < vs.length), prt t (f + i) = vs[i]
theorem gth.app {t t' : cS} {f : Nat} {vs : List Int64} {v : Int64} (h : gth t f vs) (hk : ∀ y, y < f + vs.length → prt t' y = prt t y) (hv : prt t' (f + vs.length) = v) : gth t' f (vs ++ [v]) := fun i hi => by
  rw [List.length_append] at hi
  have hi : i < vs.length + 1 := hi
  by_cases c : i < vs.length
  · rw [hk _ (by omega), List.getElem_append_left c]
    exact h i c
  · have e : i = vs.length := by omega
    subst e
    rw [hv, List.getElem_append_right (Nat.le_refl _)]
    simp only [Nat.sub_self, List.getElem_cons_zero]
end CHR
