/-! ===== PURE: a THING is told (the reference) ===== -/
section TER
variable {N : Nat} {R : Nat → Prop} {h : Nat → Int32}
theorem oM.h47 {s s' : mS} (o : oM s s') : s'.2.2.1 47 = s.2.2.1 47 := o.2.2.1 47 (by omega)
theorem r_fRowL {a : Nat} {r : List Int32} {P : Nat → Nod → Prop} (hN : 170000 ≤ N) (H : Wy h a P (vR r)) (ha : a + wV wn (vR r) ≤ 166300) : ∀ (d i q : Nat) (s : mS) (l0 : List Int32), i + d = r.length → s.2.2.1 47 = h → rOut s (l0 ++ (jn [32] ((r.map numL).take i)).map nb) → l0.length + 15 * r.length + 10 < 1600000000 → ∃ s', mf_350_L2 N (q + (d + 1)) 0 (Int32.ofNat a) (Int32.ofNat i) s = some (s', none) ∧ rOut s' (l0 ++ (jn [32] (r.map numL)).map nb ++ [nb 93]) ∧ oM s s' := by
  have hw : a + (2 + r.length) ≤ 166300 := ha
  have hlm : (r.map numL).length = r.length := List.length_map _
  intro d
  induction d with
  | zero =>
    intro i q s l0 hi h47 h1 h2
    have hi : i = r.length := hi
    rw [hi, ← hlm, List.take_length] at h1
    have hz := r_size (N := N) (s := s) (by rw [h47]; exact H) ha
    have hjl := jn_len (sep := [32]) (Nat.le_refl _) (r.map numL)
    rw [List.map_map] at hjl
    have q2 : (r.map ((fun l : List Int32 => l.length + 1) ∘ numL)).sum ≤ (r.map fun _ => 12).sum := sum_le (fun z _ => by show (numL z).length + 1 ≤ 12; have := numL_len z; omega)
    rw [sum_c] at q2
    obtain ⟨s1, a1, a2, a3⟩ := r_says (N := N) (c := Int32.ofNat 93) h1 (by rw [List.length_append, List.length_map]; omega)
    refine ⟨s1, ?_, a2, a3⟩
    show mf_350_8 N (mf_350_L2 N q) (Int32.ofNat a) (Int32.ofNat i) s = _
    repeat ((first | unfold mf_350 | unfold mf_350_0 | unfold mf_350_6 | unfold mf_350_8 | unfold mf_350_14 | unfold mf_350_17 | unfold mf_350_21 | unfold mf_350_27 | unfold mf_350_41 | unfold mf_350_47 | unfold mf_350_53); try simp (disch := omega) only [ev_S, ev_P, ↓reduceIte, Nat.reduceEqDiff, Nat.reduceLeDiff, Nat.reduceAdd, Nat.reduceMul, Nat.reduceSub, reduceCtorEq, l32_0, l32_1, l32_2, l32_3, l32_4, l32_32, l32_47, l32_91, l32_93, l32_166300, hz, szV, hi, a1, l32_93])
  | succ d ih =>
    intro i q s l0 hi h47 h1 h2
    have hi1 : i < r.length := by omega
    have hz := r_size (N := N) (s := s) (by rw [h47]; exact H) ha
    have hg := H.2.2 i hi1
    have ejn := jn_take (sep := [32]) (ls := r.map numL) (i := i) (by rw [hlm]; exact hi1)
    rw [List.getElem_map] at ejn
    have hjl := jn_len (sep := [32]) (Nat.le_refl _) ((r.map numL).take i)
    rw [← List.map_take, List.map_map] at hjl
    have q2 : ((r.take i).map ((fun l : List Int32 => l.length + 1) ∘ numL)).sum ≤ ((r.take i).map fun _ => 12).sum := sum_le (fun z _ => by show (numL z).length + 1 ≤ 12; have := numL_len z; omega)
    rw [sum_c, List.length_take] at q2
    have hll : (l0 ++ (jn [32] ((r.map numL).take i)).map nb).length = l0.length + (jn [32] ((r.map numL).take i)).length := by rw [List.length_append, List.length_map]
    rw [List.map_take] at hjl
    have hsep : ∃ s1, rOut s1 (l0 ++ (jn [32] ((r.map numL).take i)).map nb ++ (if i = 0 then [] else [32]).map nb) ∧ oM s s1 ∧ mf_350_8 N (mf_350_L2 N (q + (d + 1))) (Int32.ofNat a) (Int32.ofNat i) s = mf_350_27 N (mf_350_L2 N (q + (d + 1))) (Int32.ofNat a) (Int32.ofNat i) s1 := by
      by_cases c0 : i = 0
      · refine ⟨s, ?_, mfr.rf, ?_⟩
        · rw [if_pos c0]
          show rOut s (_ ++ [])
          rw [List.append_nil]
          exact h1
        · unfold mf_350_8
          simp (disch := omega) only [ev_S, ev_P, ↓reduceIte, Nat.reduceEqDiff, Nat.reduceLeDiff, Nat.reduceAdd, Nat.reduceMul, Nat.reduceSub, reduceCtorEq, l32_0, l32_1, l32_2, l32_3, l32_4, l32_5, l32_6, l32_7, l32_8, l32_9, l32_10, hz, szV]
          unfold mf_350_14 mf_350_17
          simp (disch := omega) only [ev_S, ev_P, ↓reduceIte, Nat.reduceEqDiff, Nat.reduceLeDiff, Nat.reduceAdd, Nat.reduceMul, Nat.reduceSub, reduceCtorEq, l32_0, l32_1, l32_2, l32_3, l32_4, l32_5, l32_6, l32_7, l32_8, l32_9, l32_10, c0]
      · rw [if_neg c0]
        obtain ⟨s1, a1, a2, a3⟩ := r_says (N := N) (c := Int32.ofNat 32) h1 (by omega)
        refine ⟨s1, a2, a3, ?_⟩
        unfold mf_350_8
        simp (disch := omega) only [ev_S, ev_P, ↓reduceIte, Nat.reduceEqDiff, Nat.reduceLeDiff, Nat.reduceAdd, Nat.reduceMul, Nat.reduceSub, reduceCtorEq, l32_0, l32_1, l32_2, l32_3, l32_4, l32_5, l32_6, l32_7, l32_8, l32_9, l32_10, hz, szV]
        unfold mf_350_14 mf_350_17 mf_350_21
        simp (disch := omega) only [ev_S, ev_P, ↓reduceIte, Nat.reduceEqDiff, Nat.reduceLeDiff, Nat.reduceAdd, Nat.reduceMul, Nat.reduceSub, reduceCtorEq, l32_0, l32_1, l32_2, l32_3, l32_4, l32_5, l32_6, l32_7, l32_8, l32_9, l32_10, a1, l32_32]
    obtain ⟨s1, a1, a2, a3⟩ := hsep
    have hsl : ((if i = 0 then [] else [(32 : Int32)]).map nb).length ≤ 1 := by
      rw [List.length_map]
      split <;> decide
    have h47' : s1.2.2.1 47 = h := a2.h47.trans h47
    obtain ⟨s2, b1, b2, b3⟩ := r_number (N := N) (z := r[i]) hN a1 (by rw [List.length_append, hll]; omega)
    have hg' : s1.2.2.1 47 (a + 2 + i) = r[i] := by rw [h47']; exact hg
    have b2' : rOut s2 (l0 ++ (jn [32] ((r.map numL).take (i + 1))).map nb) := by
      rw [ejn, List.map_append, List.map_append, ← List.append_assoc, ← List.append_assoc]
      exact b2
    obtain ⟨s', k1, k2, k3⟩ := ih (i + 1) q s2 l0 (by omega) (b3.h47.trans h47') b2' h2
    refine ⟨s', ?_, k2, (a2.tr b3).tr k3⟩
    rw [← k1]
    show mf_350_8 N (mf_350_L2 N (q + (d + 1))) (Int32.ofNat a) (Int32.ofNat i) s = _
    rw [a3]
    unfold mf_350_27 mf_350_41
    simp (disch := omega) only [ev_S, ev_P, ↓reduceIte, Nat.reduceEqDiff, l32_0, l32_1, l32_2, hg', b1]
theorem fmRow_len (r : List Int32) : (fmRow r).length + 1 ≤ 15 * (1 + r.length) := fm_len 0 (.inr (.inl r))
theorem r_fRow {a : Nat} {r : List Int32} {P : Nat → Nod → Prop} {s : mS} {l : List Int32} (hN : 170000 ≤ N) (H : Wy (s.2.2.1 47) a P (vR r)) (ha : a + wV wn (vR r) ≤ 166300) (h1 : rOut s l) (h2 : l.length + 15 * (1 + r.length) < 1600000000) : ∃ s', mf_350 N (Int32.ofNat a) s = some (s', none) ∧ rOut s' (l ++ (fmRow r).map nb) ∧ oM s s' := by
  have hw : a + (2 + r.length) ≤ 166300 := ha
  obtain ⟨s1, a1, a2, a3⟩ := r_says (N := N) (c := Int32.ofNat 91) h1 (by omega)
  have hl1 : (l ++ [nb (Int32.ofNat 91)]).length = l.length + 1 := List.length_append
  obtain ⟨s', b1, b2, b3⟩ := r_fRowL (N := N) hN H ha r.length 0 (N - (r.length + 1)) s1 (l ++ [nb (Int32.ofNat 91)]) (Nat.zero_add _) a3.h47 (by
    rw [List.take_zero]
    show rOut s1 (_ ++ [])
    rw [List.append_nil]
    exact a2) (by omega)
  rw [show N - (r.length + 1) + (r.length + 1) = N by omega] at b1
  refine ⟨s', ?_, ?_, a3.tr b3⟩
  · have b1 : mf_350_L2 N N 0 (Int32.ofNat a) (Int32.ofNat 0) s1 = some (s', none) := b1
    repeat ((first | unfold mf_350 | unfold mf_350_0 | unfold mf_350_6 | unfold mf_350_8 | unfold mf_350_14 | unfold mf_350_17 | unfold mf_350_21 | unfold mf_350_27 | unfold mf_350_41 | unfold mf_350_47 | unfold mf_350_53); try simp (disch := omega) only [ev_S, ev_P, ↓reduceIte, Nat.reduceEqDiff, Nat.reduceLeDiff, Nat.reduceAdd, Nat.reduceMul, Nat.reduceSub, reduceCtorEq, l32_0, l32_1, l32_2, l32_3, l32_4, l32_32, l32_47, l32_91, l32_93, l32_166300, a1, b1, l32_91])
  · unfold fmRow
    rw [List.map_append, List.map_append, ← List.append_assoc, ← List.append_assoc]
    exact b2
theorem r_fTabL {a : Nat} {q : List (List Int32)} (hN : 170000 ≤ N) (hR : ∀ y, R y → y < 166300) (H : Wy h a (LayN h R) (vT q)) (ha : a + wV wn (vT q) ≤ 166300) : ∀ (d i n : Nat) (s : mS) (l0 : List Int32), i + d = q.length → s.2.2.1 47 = h → rOut s (l0 ++ (jn [] ((q.map fmRow).take i)).map nb) → l0.length + 15 * (q.map fun r => 1 + r.length).sum + 10 < 1600000000 → ∃ s', mf_351_L2 N (n + (d + 1)) 0 (Int32.ofNat a) (Int32.ofNat i) s = some (s', none) ∧ rOut s' (l0 ++ (jn [] (q.map fmRow)).map nb ++ [nb 125]) ∧ oM s s' := by
  have hw : a + (2 + q.length) ≤ 166300 := ha
  have hlm : (q.map fmRow).length = q.length := List.length_map _
  intro d
  induction d with
  | zero =>
    intro i n s l0 hi h47 h1 h2
    have hi : i = q.length := hi
    rw [hi, ← hlm, List.take_length] at h1
    have hz := r_size (N := N) (s := s) (by rw [h47]; exact H) ha
    have hjl := jn_len (sep := []) (Nat.zero_le _) (q.map fmRow)
    rw [List.map_map] at hjl
    have q2 : (q.map ((fun l : List Int32 => l.length + 1) ∘ fmRow)).sum ≤ (q.map fun r => 15 * (1 + r.length)).sum := sum_le (fun r _ => fmRow_len r)
    rw [sum_mul] at q2
    obtain ⟨s1, a1, a2, a3⟩ := r_says (N := N) (c := Int32.ofNat 125) h1 (by rw [List.length_append, List.length_map]; omega)
    refine ⟨s1, ?_, a2, a3⟩
    show mf_351_24 N (mf_351_L2 N n) (Int32.ofNat a) (Int32.ofNat i) s = _
    repeat ((first | unfold mf_351 | unfold mf_351_0 | unfold mf_351_10 | unfold mf_351_15 | unfold mf_351_16 | unfold mf_351_22 | unfold mf_351_24 | unfold mf_351_30 | unfold mf_351_33 | unfold mf_351_40 | unfold mf_351_43 | unfold mf_351_49 | unfold mf_351_55); try simp (disch := omega) only [ev_S, ev_P, ↓reduceIte, Nat.reduceEqDiff, Nat.reduceLeDiff, Nat.reduceAdd, Nat.reduceMul, Nat.reduceSub, reduceCtorEq, l32_0, l32_1, l32_2, l32_3, l32_4, l32_47, l32_123, l32_125, l32_166300, hz, szV, hi, a1, l32_125])
  | succ d ih =>
    intro i n s l0 hi h47 h1 h2
    have hi1 : i < q.length := by omega
    have H' : Wy (s.2.2.1 47) a (LayN h R) (vT q) := by rw [h47]; exact H
    have hz := r_size (N := N) (s := s) H' ha
    obtain ⟨c, g1, g2⟩ := r_partT (N := N) H' ha hi1
    obtain ⟨L1, L2⟩ := LayN_iff.mp g2
    have L2 : Wy h c (LayN h R) (vR q[i]) := L2
    have hc : c + wV wn (vR q[i]) ≤ 166300 := by
      have := hR _ (L1 (c + wV wn (vR q[i]) - 1) (by have := L2.kd.2.2; omega) (by have := L2.kd.2.2; show _ < c + wV wn (vR q[i]); omega))
      omega
    have ejn := jn_take (sep := []) (ls := q.map fmRow) (i := i) (by rw [hlm]; exact hi1)
    rw [List.getElem_map] at ejn
    have hb1 : (jn [] ((q.map fmRow).take i)).length + 15 * (1 + q[i].length) ≤ 15 * (q.map fun r => 1 + r.length).sum := by
      have q1 := jn_len (sep := []) (Nat.zero_le _) ((q.map fmRow).take i)
      rw [← List.map_take, List.map_map] at q1
      have q3 : ((q.take i).map ((fun l : List Int32 => l.length + 1) ∘ fmRow)).sum ≤ ((q.take i).map fun r => 15 * (1 + r.length)).sum := sum_le (fun r _ => fmRow_len r)
      rw [sum_mul] at q3
      have q2 : ((q.take i).map fun r => 1 + r.length).sum + ((q.drop i).map fun r => 1 + r.length).sum = (q.map fun r => 1 + r.length).sum := by
        rw [← List.sum_append_nat, ← List.map_append, List.take_append_drop]
      rw [List.drop_eq_getElem_cons hi1, List.map_cons, List.sum_cons] at q2
      rw [← List.map_take]
      omega
    obtain ⟨s2, b1, b2, b3⟩ := r_fRow (N := N) (s := s) (r := q[i]) hN (by rw [h47]; exact L2) hc h1 (by rw [List.length_append, List.length_map]; omega)
    have b2' : rOut s2 (l0 ++ (jn [] ((q.map fmRow).take (i + 1))).map nb) := by
      rw [ejn, List.map_append, ← List.append_assoc]
      rw [show (if i = 0 then ([] : List Int32) else []) ++ fmRow q[i] = fmRow q[i] by split <;> rfl]
      exact b2
    obtain ⟨s', k1, k2, k3⟩ := ih (i + 1) n s2 l0 (by omega) (b3.h47.trans h47) b2' h2
    refine ⟨s', ?_, k2, b3.tr k3⟩
    rw [← k1]
    show mf_351_24 N (mf_351_L2 N (n + (d + 1))) (Int32.ofNat a) (Int32.ofNat i) s = _
    repeat ((first | unfold mf_351 | unfold mf_351_0 | unfold mf_351_10 | unfold mf_351_15 | unfold mf_351_16 | unfold mf_351_22 | unfold mf_351_24 | unfold mf_351_30 | unfold mf_351_33 | unfold mf_351_40 | unfold mf_351_43 | unfold mf_351_49 | unfold mf_351_55); try simp (disch := omega) only [ev_S, ev_P, ↓reduceIte, Nat.reduceEqDiff, Nat.reduceLeDiff, Nat.reduceAdd, Nat.reduceMul, Nat.reduceSub, reduceCtorEq, l32_0, l32_1, l32_2, l32_3, l32_4, l32_47, l32_123, l32_125, l32_166300, hz, szV, g1, b1])
/-- a THING that is no INT and no PACK -/
theorem r_fPlain {a : Nat} {v : Vw} {s : mS} {l : List Int32} (hN : 170000 ≤ N) (hR : ∀ y, R y → y < 166300) (h3 : ¬ kdV v = 3) (H : Wy (s.2.2.1 47) a (LayN (s.2.2.1 47) R) v) (ha : a + wV wn v ≤ 166300) (h1 : rOut s l) (h2 : l.length + 15 * bulkV v < 1600000000) : ∃ s', mf_351 N (Int32.ofNat a) s = some (s', none) ∧ rOut s' (l ++ (fmV v).map nb) ∧ oM s s' := by
  have kd := H.kd
  have c1 : a < 166300 := by omega
  obtain z | r | q | w := v
  · exact H.elim
  · have e1 : s.2.2.1 47 a = 1 := kd.1
    obtain ⟨s', b1, b2, b3⟩ := r_fRow (N := N) (s := s) (r := r) hN H ha h1 h2
    refine ⟨s', ?_, ?_, b3⟩
    · repeat ((first | unfold mf_351 | unfold mf_351_0 | unfold mf_351_10 | unfold mf_351_15 | unfold mf_351_16 | unfold mf_351_22 | unfold mf_351_24 | unfold mf_351_30 | unfold mf_351_33 | unfold mf_351_40 | unfold mf_351_43 | unfold mf_351_49 | unfold mf_351_55); try simp (disch := omega) only [ev_S, ev_P, ↓reduceIte, Nat.reduceEqDiff, Nat.reduceLeDiff, Nat.reduceAdd, Nat.reduceMul, Nat.reduceSub, reduceCtorEq, l32_0, l32_1, l32_2, l32_3, l32_4, l32_47, l32_123, l32_125, l32_166300, e1, b1])
    · have e : fmV (vR r) = fmRow r := (vw_fm (nR r)).symm
      show rOut s' (l ++ (fmV (vR r)).map nb)
      rw [e]
      exact b2
  · have e1 : s.2.2.1 47 a = 2 := kd.1
    have hw : a + (2 + q.length) ≤ 166300 := ha
    have h2 : l.length + 15 * (1 + (q.map fun r => 1 + r.length).sum) < 1600000000 := h2
    obtain ⟨s1, a1, a2, a3⟩ := r_says (N := N) (c := Int32.ofNat 123) h1 (by omega)
    have hl1 : (l ++ [nb (Int32.ofNat 123)]).length = l.length + 1 := List.length_append
    obtain ⟨s', b1, b2, b3⟩ := r_fTabL (N := N) hN hR H ha q.length 0 (N - (q.length + 1)) s1 (l ++ [nb (Int32.ofNat 123)]) (Nat.zero_add _) a3.h47 (by
      rw [List.take_zero]
      show rOut s1 (_ ++ [])
      rw [List.append_nil]
      exact a2) (by omega)
    rw [show N - (q.length + 1) + (q.length + 1) = N by omega] at b1
    have b1 : mf_351_L2 N N 0 (Int32.ofNat a) (Int32.ofNat 0) s1 = some (s', none) := b1
    refine ⟨s', ?_, ?_, a3.tr b3⟩
    · repeat ((first | unfold mf_351 | unfold mf_351_0 | unfold mf_351_10 | unfold mf_351_15 | unfold mf_351_16 | unfold mf_351_22 | unfold mf_351_24 | unfold mf_351_30 | unfold mf_351_33 | unfold mf_351_40 | unfold mf_351_43 | unfold mf_351_49 | unfold mf_351_55); try simp (disch := omega) only [ev_S, ev_P, ↓reduceIte, Nat.reduceEqDiff, Nat.reduceLeDiff, Nat.reduceAdd, Nat.reduceMul, Nat.reduceSub, reduceCtorEq, l32_0, l32_1, l32_2, l32_3, l32_4, l32_47, l32_123, l32_125, l32_166300, e1, a1, b1, l32_123])
    · have e : fmV (vT q) = [123] ++ jn [] (q.map fmRow) ++ [125] := (vw_fm ⟨0, .inr (.inr q)⟩).symm
      show rOut s' (l ++ (fmV (vT q)).map nb)
      rw [e, List.map_append, List.map_append, ← List.append_assoc, ← List.append_assoc]
      exact b2
  · exact absurd rfl h3
end TER
