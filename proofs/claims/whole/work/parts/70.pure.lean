/-! ===== PURE: the class builds a THING (2) ===== -/
section CBE
variable {N : Nat} {X : Nat → Option zz_C} {t : cS} {u f k n : Nat} {xs : List Nod}
/-- room for k + n cells more -/
theorem c_room {tot dep : Int32} (hk : k = 1 ∨ k = 2 ∨ k = 3) (hh : cHp t u f) (hu : u + k + n ≤ 170000) : ∃ t2, cf_126_163 N X (Int32.ofNat k) (Int32.ofNat f) (Int32.ofNat n) tot dep t = cf_126_210 N X (Int32.ofNat k) (Int32.ofNat f) (Int32.ofNat n) tot dep (Int32.ofNat u) t2 ∧ cHp t2 (u + k + n) f ∧ hfr t t2 ∧ (∀ y, y < u → cel t2 y = cel t y) ∧ kB t2 44 = kB t 44 := by
  obtain ⟨h1, h2, h3, h4, h5, h6, h7, h8, h9⟩ := hh
  have hk9 := h9.k
  have ea : u + (k + n) = u + k + n := by omega
  by_cases c : u + k + n ≤ (kB t 43).1
  · refine ⟨jI t 42 1 (Int32.ofNat (u + k + n)), ?_, ⟨rfl, h2, c, h4, h5, h6, h7, h8, h9⟩, ⟨fun k f r => if_neg (fun q => r ⟨q.1, Or.inl q.2⟩), rfl, rfl, fun k r1 r2 r3 => ⟨rfl, rfl, rfl⟩, rfl, rfl, Nat.le_refl _, Nat.le_refl _, Nat.le_refl _⟩, fun _ _ => rfl, rfl⟩
    unfold cf_126_163
    simp (disch := omega) only [ev_S, ev_C, ↓reduceIte, Nat.reduceEqDiff, Nat.reduceLeDiff, Nat.reduceAdd, Nat.reduceMul, Nat.reduceSub, reduceCtorEq, l32_0, l32_1, l32_2, l32_3, l32_4, l32_5, l32_6, l32_7, l32_8, l32_9, l32_10, h1, ea]
  · have hl := lgc2 (a := (kB t 43).1) (b := 2 * (u + k + n)) h6 (by omega) (by omega)
    have h9a := h9.1
    unfold pot at h9a
    have hm : Nat.min (kB t 43).1 (2 * (u + k + n)) = (kB t 43).1 := Nat.min_eq_left (by omega)
    refine ⟨jMv (jNL (jI t 42 1 (Int32.ofNat (u + k + n))) (2 * (u + k + n)) (kcp 0 (kB t 43).2 (kB t 43).1)) 43, ?_, ⟨rfl, h2, ?_, h4, h5, ?_, ?_, h8, ?_⟩, ⟨fun k f r => if_neg (fun q => r ⟨q.1, Or.inl q.2⟩), rfl, rfl, fun k r1 r2 r3 => ⟨?_, ?_, ?_⟩, rfl, rfl, ?_, ?_, ?_⟩, fun y hy => ?_, rfl⟩
    · unfold cf_126_163 cf_126_193
      simp (disch := omega) only [ev_S, ev_C, ↓reduceIte, Nat.reduceEqDiff, Nat.reduceLeDiff, Nat.reduceAdd, Nat.reduceMul, Nat.reduceSub, reduceCtorEq, l32_0, l32_1, l32_2, l32_3, l32_4, l32_5, l32_6, l32_7, l32_8, l32_9, l32_10, h1, ea, hm]
    · show u + k + n ≤ 2 * (u + k + n)
      omega
    · show 1 ≤ 2 * (u + k + n)
      omega
    · show 2 * (u + k + n) < 350000
      omega
    · refine ⟨?_, h9.2⟩
      show kN t + 1 + 200 < zz_out + (lgc (2 * (u + k + n)) + lgc (kB t 44).1 + (kA t 46).1 / 64 + lgc (kB t 52).1 + lgc (kA t 55).1 + lgc (kA t 56).1 + lgc (kA t 57).1)
      omega
    · show (if k = 43 then _ else kA t k) = _
      exact if_neg r1
    · show (if k = 43 then _ else (if k = 111 then _ else kB t k)) = _
      rw [if_neg r1, if_neg r3]
    · show (if k = 43 then _ else (if k = 111 then _ else kD t k)) = _
      rw [if_neg r1, if_neg r3]
    · show kN t ≤ kN t + 1
      omega
    · show kN t + 1 + pot t ≤ kN t + (lgc (2 * (u + k + n)) + lgc (kB t 44).1 + (kA t 46).1 / 64 + lgc (kB t 52).1 + lgc (kA t 55).1 + lgc (kA t 56).1 + lgc (kA t 57).1)
      unfold pot
      omega
    · show kQ t + 2 * (u + k + n) + poq t ≤ kQ t + (2 * (2 * (u + k + n)) + 2 * (kB t 44).1 + 17 * (kA t 46).1 + 2 * (kB t 52).1 + 2 * (kA t 55).1 + 2 * (kA t 56).1 + 2 * (kA t 57).1)
      unfold poq
      omega
    · show kcp 0 (kB t 43).2 (kB t 43).1 y = _
      exact kcp_lt (by omega)
/-- a part's weight in what is built -/
def wt (k : Nat) (x : Nod) : Nat := if k = 3 then bulkN x else szN x
theorem wt_le {k : Nat} {x : Nod} (h : wfN x) : wt k x ≤ 600 := by
  have h1 := bulk_wf x.1 x.2 h
  unfold wt
  by_cases c : k = 3
  · rw [if_pos c]
    exact h1
  · rw [if_neg c]
    have h2 := vw_bulk x
    have h1 : bulkN x ≤ 600 := h1
    rw [h2] at h1
    refine Nat.le_trans ?_ h1
    show szV (vw x) ≤ bulkV (vw x)
    generalize vw x = v
    obtain z | r | q | l := v
    · exact Nat.zero_le _
    · show r.length ≤ 1 + r.length
      omega
    · show q.length ≤ 1 + (q.map fun r => 1 + r.length).sum
      rw [sum_add, sum_c]
      omega
    · show l.2.length ≤ 1 + (l.2.map (bulk l.1)).sum
      have : (l.2.map fun _ => 1).sum ≤ (l.2.map (bulk l.1)).sum := sum_le (fun y _ => bulk_pos _ _)
      rw [sum_c] at this
      omega
theorem dT_le : ∀ (n : Nat) (x : Th n), dT n x ≤ n
  | 0, _ => Nat.zero_le _
  | n + 1, x => by
    obtain p | l := x
    · exact Nat.zero_le _
    · show 1 + mxL (l.map (dT n)) ≤ n + 1
      have : mxL (l.map (dT n)) ≤ n := mxL_le.mpr (fun y hy => by
        obtain ⟨z, -, e⟩ := List.mem_map.mp hy
        rw [← e]
        exact dT_le n z)
      omega
/-- all values of a list -/
def reps (g : Nat → Int64) (u : Nat) (h : Nat → Int64) (f : Nat) (xs : List Nod) : Prop := ∀ i (hi : i < xs.length), cN g u (h (f + i)) xs[i]
theorem c_total {w : Nat} (hk : k = 2 ∨ k = 3) (hh : cHp t u w) (hr : reps (cel t) u (prt t) f xs) (hf : f + xs.length ≤ (kB t 44).1) (hw : ∀ x ∈ xs, wfN x) (hd : ∀ x ∈ xs, dN x ≤ 4) (hl : xs.length ≤ 3000) : ∀ (d i q tot dep : Nat), i + d = xs.length → tot ≤ 600 * i → dep ≤ 4 → cf_126_L23 N X (q + (d + 1)) 0 (Int32.ofNat k) (Int32.ofNat f) (Int32.ofNat xs.length) (Int32.ofNat tot) (Int32.ofNat dep) (Int32.ofNat (f + i)) t = cf_126_106 N X (Int32.ofNat k) (Int32.ofNat f) (Int32.ofNat xs.length) (Int32.ofNat (tot + ((xs.drop i).map (wt k)).sum)) (Int32.ofNat (Nat.max dep (mxL ((xs.drop i).map dN)))) t := by
  have hh' := hh
  obtain ⟨h1, h2, h3, h4, h5, h6, h7, h8, h9⟩ := hh'
  intro d
  induction d with
  | zero =>
    intro i q tot dep hi ht hdp
    have hi : i = xs.length := hi
    rw [hi, List.drop_length]
    show cf_126_34 N X (cf_126_L23 N X q) (Int32.ofNat k) (Int32.ofNat f) (Int32.ofNat xs.length) (Int32.ofNat tot) (Int32.ofNat dep) (Int32.ofNat (f + xs.length)) t = cf_126_106 N X (Int32.ofNat k) (Int32.ofNat f) (Int32.ofNat xs.length) (Int32.ofNat tot) (Int32.ofNat (Nat.max dep 0)) t
    rw [show Nat.max dep 0 = dep from Nat.max_eq_left (Nat.zero_le _)]
    unfold cf_126_34
    simp (disch := omega) only [ev_S, ev_C, ↓reduceIte, Nat.reduceEqDiff, Nat.reduceLeDiff, Nat.reduceAdd, Nat.reduceMul, Nat.reduceSub, reduceCtorEq, l32_0, l32_1, l32_2, l32_3, l32_4, l32_5, l32_6, l32_7, l32_8, l32_9, l32_10, h1]
    unfold cf_126_39
    simp (disch := omega) only [ev_S, ev_C, ↓reduceIte, Nat.reduceEqDiff, Nat.reduceLeDiff, Nat.reduceAdd, Nat.reduceMul, Nat.reduceSub, reduceCtorEq, l32_0, l32_1, l32_2, l32_3, l32_4, l32_5, l32_6, l32_7, l32_8, l32_9, l32_10, h1]
  | succ d ih =>
    intro i q tot dep hi ht hdp
    have hi1 : i < xs.length := by omega
    have hx := hr i hi1
    have hm := List.getElem_mem hi1
    have b1 := c_bulk (N := N) (X := X) hh hx
    have b2 := c_depth (N := N) (X := X) hh hx
    have b3 := c_size (N := N) (X := X) hh hx
    have q1 := wt_le (k := k) (hw _ hm)
    have q2 := hd _ hm
    have fi : f + i < (kB t 44).1 := by omega
    have fi1 : f + i + 1 = f + (i + 1) := by omega
    have hst : cf_126_L23 N X (q + (d + 1 + 1)) 0 (Int32.ofNat k) (Int32.ofNat f) (Int32.ofNat xs.length) (Int32.ofNat tot) (Int32.ofNat dep) (Int32.ofNat (f + i)) t = cf_126_L23 N X (q + (d + 1)) 0 (Int32.ofNat k) (Int32.ofNat f) (Int32.ofNat xs.length) (Int32.ofNat (tot + wt k xs[i])) (Int32.ofNat (Nat.max dep (dN xs[i]))) (Int32.ofNat (f + (i + 1))) t := by
      show cf_126_34 N X (cf_126_L23 N X (q + (d + 1))) (Int32.ofNat k) (Int32.ofNat f) (Int32.ofNat xs.length) (Int32.ofNat tot) (Int32.ofNat dep) (Int32.ofNat (f + i)) t = _
      by_cases c : dep < dN xs[i]
      · rw [show Nat.max dep (dN xs[i]) = dN xs[i] from Nat.max_eq_right (by omega)]
        rcases hk with rfl | rfl
        · have w2 : wt 2 xs[i] = szN xs[i] := rfl
          repeat ((first | unfold cf_126 | unfold cf_126_0 | unfold cf_126_11 | unfold cf_126_15 | unfold cf_126_19 | unfold cf_126_20 | unfold cf_126_34 | unfold cf_126_39 | unfold cf_126_47 | unfold cf_126_54 | unfold cf_126_65 | unfold cf_126_68 | unfold cf_126_79 | unfold cf_126_95 | unfold cf_126_106 | unfold cf_126_112 | unfold cf_126_117 | unfold cf_126_119 | unfold cf_126_122 | unfold cf_126_127 | unfold cf_126_135 | unfold cf_126_140 | unfold cf_126_150 | unfold cf_126_158 | unfold cf_126_162 | unfold cf_126_163 | unfold cf_126_193 | unfold cf_126_210 | unfold cf_126_224 | unfold cf_126_239 | unfold cf_126_244 | unfold cf_126_272 | unfold cf_126_275 | unfold cf_126_281 | unfold cf_126_297 | unfold cf_126_309 | unfold cf_126_320 | unfold cf_126_327 | unfold cf_126_333); try simp (disch := omega) only [ev_S, ev_C, ↓reduceIte, Nat.reduceEqDiff, Nat.reduceLeDiff, Nat.reduceAdd, Nat.reduceMul, Nat.reduceSub, reduceCtorEq, l32_0, l32_1, l32_2, l32_3, l32_4, l32_20, l32_42, l32_43, l32_44, l32_64, l32_200, l32_600, b1, b2, b3, fi1, w2])
        · have w2 : wt 3 xs[i] = bulkN xs[i] := rfl
          repeat ((first | unfold cf_126 | unfold cf_126_0 | unfold cf_126_11 | unfold cf_126_15 | unfold cf_126_19 | unfold cf_126_20 | unfold cf_126_34 | unfold cf_126_39 | unfold cf_126_47 | unfold cf_126_54 | unfold cf_126_65 | unfold cf_126_68 | unfold cf_126_79 | unfold cf_126_95 | unfold cf_126_106 | unfold cf_126_112 | unfold cf_126_117 | unfold cf_126_119 | unfold cf_126_122 | unfold cf_126_127 | unfold cf_126_135 | unfold cf_126_140 | unfold cf_126_150 | unfold cf_126_158 | unfold cf_126_162 | unfold cf_126_163 | unfold cf_126_193 | unfold cf_126_210 | unfold cf_126_224 | unfold cf_126_239 | unfold cf_126_244 | unfold cf_126_272 | unfold cf_126_275 | unfold cf_126_281 | unfold cf_126_297 | unfold cf_126_309 | unfold cf_126_320 | unfold cf_126_327 | unfold cf_126_333); try simp (disch := omega) only [ev_S, ev_C, ↓reduceIte, Nat.reduceEqDiff, Nat.reduceLeDiff, Nat.reduceAdd, Nat.reduceMul, Nat.reduceSub, reduceCtorEq, l32_0, l32_1, l32_2, l32_3, l32_4, l32_20, l32_42, l32_43, l32_44, l32_64, l32_200, l32_600, b1, b2, b3, fi1, w2])
      · rw [show Nat.max dep (dN xs[i]) = dep from Nat.max_eq_left (by omega)]
        rcases hk with rfl | rfl
        · have w2 : wt 2 xs[i] = szN xs[i] := rfl
          repeat ((first | unfold cf_126 | unfold cf_126_0 | unfold cf_126_11 | unfold cf_126_15 | unfold cf_126_19 | unfold cf_126_20 | unfold cf_126_34 | unfold cf_126_39 | unfold cf_126_47 | unfold cf_126_54 | unfold cf_126_65 | unfold cf_126_68 | unfold cf_126_79 | unfold cf_126_95 | unfold cf_126_106 | unfold cf_126_112 | unfold cf_126_117 | unfold cf_126_119 | unfold cf_126_122 | unfold cf_126_127 | unfold cf_126_135 | unfold cf_126_140 | unfold cf_126_150 | unfold cf_126_158 | unfold cf_126_162 | unfold cf_126_163 | unfold cf_126_193 | unfold cf_126_210 | unfold cf_126_224 | unfold cf_126_239 | unfold cf_126_244 | unfold cf_126_272 | unfold cf_126_275 | unfold cf_126_281 | unfold cf_126_297 | unfold cf_126_309 | unfold cf_126_320 | unfold cf_126_327 | unfold cf_126_333); try simp (disch := omega) only [ev_S, ev_C, ↓reduceIte, Nat.reduceEqDiff, Nat.reduceLeDiff, Nat.reduceAdd, Nat.reduceMul, Nat.reduceSub, reduceCtorEq, l32_0, l32_1, l32_2, l32_3, l32_4, l32_20, l32_42, l32_43, l32_44, l32_64, l32_200, l32_600, b1, b2, b3, fi1, w2])
        · have w2 : wt 3 xs[i] = bulkN xs[i] := rfl
          repeat ((first | unfold cf_126 | unfold cf_126_0 | unfold cf_126_11 | unfold cf_126_15 | unfold cf_126_19 | unfold cf_126_20 | unfold cf_126_34 | unfold cf_126_39 | unfold cf_126_47 | unfold cf_126_54 | unfold cf_126_65 | unfold cf_126_68 | unfold cf_126_79 | unfold cf_126_95 | unfold cf_126_106 | unfold cf_126_112 | unfold cf_126_117 | unfold cf_126_119 | unfold cf_126_122 | unfold cf_126_127 | unfold cf_126_135 | unfold cf_126_140 | unfold cf_126_150 | unfold cf_126_158 | unfold cf_126_162 | unfold cf_126_163 | unfold cf_126_193 | unfold cf_126_210 | unfold cf_126_224 | unfold cf_126_239 | unfold cf_126_244 | unfold cf_126_272 | unfold cf_126_275 | unfold cf_126_281 | unfold cf_126_297 | unfold cf_126_309 | unfold cf_126_320 | unfold cf_126_327 | unfold cf_126_333); try simp (disch := omega) only [ev_S, ev_C, ↓reduceIte, Nat.reduceEqDiff, Nat.reduceLeDiff, Nat.reduceAdd, Nat.reduceMul, Nat.reduceSub, reduceCtorEq, l32_0, l32_1, l32_2, l32_3, l32_4, l32_20, l32_42, l32_43, l32_44, l32_64, l32_200, l32_600, b1, b2, b3, fi1, w2])
    rw [hst, ih (i + 1) q (tot + wt k xs[i]) (Nat.max dep (dN xs[i])) (by omega) (by omega) (Nat.max_le.mpr ⟨hdp, q2⟩), List.drop_eq_getElem_cons hi1, List.map_cons, List.map_cons, List.sum_cons]
    rw [show tot + wt k xs[i] + ((xs.drop (i + 1)).map (wt k)).sum = tot + (wt k xs[i] + ((xs.drop (i + 1)).map (wt k)).sum) by omega]
    show _ = cf_126_106 N X (Int32.ofNat k) (Int32.ofNat f) (Int32.ofNat xs.length) _ (Int32.ofNat (Nat.max dep (Nat.max (dN xs[i]) (mxL ((xs.drop (i + 1)).map dN))))) t
    rw [show Nat.max (Nat.max dep (dN xs[i])) (mxL ((xs.drop (i + 1)).map dN)) = Nat.max dep (Nat.max (dN xs[i]) (mxL ((xs.drop (i + 1)).map dN))) from Nat.max_assoc _ _ _]
end CBE
