/-! ===== PURE: a THING is told (the class) ===== -/
section TEM
variable {N : Nat} {X : Nat → Option zz_C}
theorem sz64 {x : Nod} (hw : wfN x) : (pts x).length ≤ 64 := by
  rw [pts_len]
  have hw := vw_wf x hw
  show szV (vw x) ≤ 64
  generalize vw x = V at hw
  obtain y | r | q | w := V
  · exact Nat.zero_le _
  · exact hw
  · exact Nat.le_trans hw.1 (by omega)
  · exact Nat.le_trans hw.1 (by omega)
theorem wf_pts {x : Nod} (hw : wfN x) : ∀ y ∈ pts x, wfN y := by
  have hw := vw_wf x hw
  show ∀ y ∈ ptsV (vw x), wfN y
  generalize vw x = V at hw
  intro y hy
  obtain z | r | q | w := V
  · exact (List.not_mem_nil hy).elim
  · obtain ⟨z, -, rfl⟩ := List.mem_map.mp hy
    exact trivial
  · obtain ⟨z, hz, rfl⟩ := List.mem_map.mp hy
    exact hw.2.2 z hz
  · obtain ⟨z, hz, rfl⟩ := List.mem_map.mp hy
    exact hw.2.2 z hz
theorem bulk_pts {x : Nod} : ((pts x).map bulkN).sum + 1 = bulkN x := by
  rw [vw_bulk x]
  show ((ptsV (vw x)).map bulkN).sum + 1 = bulkV (vw x)
  generalize vw x = V
  obtain z | r | q | ⟨n, l⟩ := V
  · rfl
  · show ((r.map nZ).map bulkN).sum + 1 = 1 + r.length
    rw [List.map_map, show (bulkN ∘ nZ) = fun _ => 1 from rfl, sum_c]
    omega
  · show ((q.map nR).map bulkN).sum + 1 = 1 + (q.map fun r => 1 + r.length).sum
    rw [List.map_map, show (bulkN ∘ nR) = fun r => 1 + r.length from rfl]
    omega
  · show ((l.map fun y => (⟨n, y⟩ : Nod)).map bulkN).sum + 1 = 1 + (l.map (bulk n)).sum
    rw [sum_nod]
    omega
theorem c_formStep {rk : Nat → List Value → cS → kO} {dp : Nat} {x : Nod} (hN0 : 170000 ≤ N) (hw : wfN x) (hdp : dp + hN x ≤ 6) (hc : ∀ y ∈ pts x, tlP (fun v => rk 170 [.long v, .int (Int32.ofNat (dp + 1))]) y) : tlP (fun v => cf_170 N X rk v (Int32.ofNat dp)) x := by
  intro t l u w v h1 h2 h3 h4
  have hz := sz64 hw
  have hb := bulk_wf x.1 x.2 hw
  have hb : bulkN x ≤ 600 := hb
  have hfp := bulk_pts (x := x)
  have hpos := h_pos (x := x)
  have sz := c_size (N := N) (X := X) h2 h3
  have kv := c_kind (N := N) (X := X) h3
  have h3' := cN_iff.mp h3
  have hf : fmN x = fmV (vw x) := vw_fm x
  have hL := fun (k : Nat) (sep : List Int32) hk => c_formL (N := N) (X := X) (rk := rk) (dp := dp) (k := k) (x := x) (v := v) (sep := sep) (u := u) (w := w) hk hz (by omega) hc
  have hpl : (pts x).length = szV (vw x) := pts_len (x := x)
  rw [← hpl] at sz
  rw [hf]
  by_cases c0 : kdN x = 0
  · have e := kd0 c0
    rw [e] at h3' kv ⊢
    have h3' : v = tg 0 (ivN x) := h3'
    subst h3'
    obtain ⟨t', a1, a2, a3⟩ := c_number (N := N) (X := X) (z := ivN x) hN0 h1 (by omega)
    refine ⟨t', ?_, a2, a3⟩
    have ll := c_lowOf (N := N) (X := X) (t := t) (k := 0) (a := ivN x)
    have ll : cf_256 N X (tg (Int32.ofNat 0) (ivN x)) t = _ := ll
    have kv : cf_255 N X (tg (Int32.ofNat 0) (ivN x)) t = some (t, .inl (some (.int (Int32.ofNat 0)))) := kv
    show cf_170 N X rk (tg (Int32.ofNat 0) (ivN x)) (Int32.ofNat dp) t = _
    repeat ((first | unfold cf_170 | unfold cf_170_0 | unfold cf_170_4 | unfold cf_170_11 | unfold cf_170_17 | unfold cf_170_22 | unfold cf_170_25 | unfold cf_170_26 | unfold cf_170_31 | unfold cf_170_40 | unfold cf_170_45 | unfold cf_170_51 | unfold cf_170_56 | unfold cf_170_58 | unfold cf_170_61 | unfold cf_170_64 | unfold cf_170_71 | unfold cf_170_76 | unfold cf_170_82 | unfold cf_170_89 | unfold cf_170_94 | unfold cf_170_96 | unfold cf_170_99 | unfold cf_170_108 | unfold cf_170_115 | unfold cf_170_121 | unfold cf_170_128 | unfold cf_170_133 | unfold cf_170_139 | unfold cf_170_144 | unfold cf_170_146 | unfold cf_170_149); try simp (disch := omega) only [ev_S, ev_C, ↓reduceIte, Nat.reduceEqDiff, Nat.reduceLeDiff, Nat.reduceAdd, Nat.reduceMul, Nat.reduceSub, reduceCtorEq, l32_0, l32_1, l32_2, l32_3, l32_4, l32_5, l32_32, l32_40, l32_41, l32_59, l32_91, l32_93, l32_123, l32_125, kv, ll, a1])
  · have hh := hpos c0
    have hd5 : dp ≤ 5 := by omega
    -- open, parts, close
    have key : ∀ (k o c : Nat) (sep : List Int32), (k = 1 ∧ sep = [32] ∨ k = 2 ∧ sep = [] ∨ k = 3 ∧ sep = [59]) → kdV (vw x) = Int32.ofNat k → (k = 1 ∧ o = 91 ∧ c = 93 ∨ k = 2 ∧ o = 123 ∧ c = 125 ∨ k = 3 ∧ o = 40 ∧ c = 41) → fmV (vw x) = [Int32.ofNat o] ++ jn sep ((pts x).map fmN) ++ [Int32.ofNat c] → ∃ t', cf_170 N X rk v (Int32.ofNat dp) t = some (t', .inl none) ∧ cOut t' (l ++ (fmV (vw x)).map nb) ∧ ofr t t' := by
      intro k o c sep hk ek ho ef
      obtain ⟨t1, a1, a2, a3, -⟩ := c_says (N := N) (X := X) (c := Int32.ofNat o) h1 (by omega)
      obtain ⟨b1, b2, b3⟩ := a3.hp a2.l6 h2
      have hl1 : (l ++ [nb (Int32.ofNat o)]).length = l.length + 1 := List.length_append
      obtain ⟨t2, c1, c2, c3⟩ := hL k sep hk (pts x).length 0 (N - ((pts x).length + 1)) t1 (l ++ [nb (Int32.ofNat o)]) (Nat.zero_add _) (by
        rw [List.take_zero]
        show cOut t1 (_ ++ [])
        rw [List.append_nil]
        exact a2) b1 (by
        show cN (kB t1 43).2 u v x
        rw [b2]
        exact h3) (by omega)
      rw [show N - ((pts x).length + 1) + ((pts x).length + 1) = N by omega] at c1
      have hjl := jn_len (sep := sep) (by rcases hk with ⟨-, rfl⟩ | ⟨-, rfl⟩ | ⟨-, rfl⟩ <;> decide) ((pts x).map fmN)
      rw [List.map_map] at hjl
      have q3 : ((pts x).map ((fun l : List Int32 => l.length + 1) ∘ fmN)).sum ≤ ((pts x).map fun y => 15 * bulkN y).sum := sum_le (fun y _ => fm_len y.1 y.2)
      rw [sum_mul] at q3
      obtain ⟨t3, d1, d2, d3, -⟩ := c_says (N := N) (X := X) (c := Int32.ofNat c) c2 (by rw [List.length_append, hl1, List.length_map]; omega)
      refine ⟨t3, ?_, ?_, (a3.tr c3).tr d3⟩
      · rw [ek] at kv
        rcases ho with ⟨rfl, rfl, rfl⟩ | ⟨rfl, rfl, rfl⟩ | ⟨rfl, rfl, rfl⟩
        · repeat ((first | unfold cf_170 | unfold cf_170_0 | unfold cf_170_4 | unfold cf_170_11 | unfold cf_170_17 | unfold cf_170_22 | unfold cf_170_25 | unfold cf_170_26 | unfold cf_170_31 | unfold cf_170_40 | unfold cf_170_45 | unfold cf_170_51 | unfold cf_170_56 | unfold cf_170_58 | unfold cf_170_61 | unfold cf_170_64 | unfold cf_170_71 | unfold cf_170_76 | unfold cf_170_82 | unfold cf_170_89 | unfold cf_170_94 | unfold cf_170_96 | unfold cf_170_99 | unfold cf_170_108 | unfold cf_170_115 | unfold cf_170_121 | unfold cf_170_128 | unfold cf_170_133 | unfold cf_170_139 | unfold cf_170_144 | unfold cf_170_146 | unfold cf_170_149); try simp (disch := omega) only [ev_S, ev_C, ↓reduceIte, Nat.reduceEqDiff, Nat.reduceLeDiff, Nat.reduceAdd, Nat.reduceMul, Nat.reduceSub, reduceCtorEq, l32_0, l32_1, l32_2, l32_3, l32_4, l32_5, l32_32, l32_40, l32_41, l32_59, l32_91, l32_93, l32_123, l32_125, kv, sz, a1, c1, d1, l32_91, l32_93])
        · repeat ((first | unfold cf_170 | unfold cf_170_0 | unfold cf_170_4 | unfold cf_170_11 | unfold cf_170_17 | unfold cf_170_22 | unfold cf_170_25 | unfold cf_170_26 | unfold cf_170_31 | unfold cf_170_40 | unfold cf_170_45 | unfold cf_170_51 | unfold cf_170_56 | unfold cf_170_58 | unfold cf_170_61 | unfold cf_170_64 | unfold cf_170_71 | unfold cf_170_76 | unfold cf_170_82 | unfold cf_170_89 | unfold cf_170_94 | unfold cf_170_96 | unfold cf_170_99 | unfold cf_170_108 | unfold cf_170_115 | unfold cf_170_121 | unfold cf_170_128 | unfold cf_170_133 | unfold cf_170_139 | unfold cf_170_144 | unfold cf_170_146 | unfold cf_170_149); try simp (disch := omega) only [ev_S, ev_C, ↓reduceIte, Nat.reduceEqDiff, Nat.reduceLeDiff, Nat.reduceAdd, Nat.reduceMul, Nat.reduceSub, reduceCtorEq, l32_0, l32_1, l32_2, l32_3, l32_4, l32_5, l32_32, l32_40, l32_41, l32_59, l32_91, l32_93, l32_123, l32_125, kv, sz, a1, c1, d1, l32_123, l32_125])
        · repeat ((first | unfold cf_170 | unfold cf_170_0 | unfold cf_170_4 | unfold cf_170_11 | unfold cf_170_17 | unfold cf_170_22 | unfold cf_170_25 | unfold cf_170_26 | unfold cf_170_31 | unfold cf_170_40 | unfold cf_170_45 | unfold cf_170_51 | unfold cf_170_56 | unfold cf_170_58 | unfold cf_170_61 | unfold cf_170_64 | unfold cf_170_71 | unfold cf_170_76 | unfold cf_170_82 | unfold cf_170_89 | unfold cf_170_94 | unfold cf_170_96 | unfold cf_170_99 | unfold cf_170_108 | unfold cf_170_115 | unfold cf_170_121 | unfold cf_170_128 | unfold cf_170_133 | unfold cf_170_139 | unfold cf_170_144 | unfold cf_170_146 | unfold cf_170_149); try simp (disch := omega) only [ev_S, ev_C, ↓reduceIte, Nat.reduceEqDiff, Nat.reduceLeDiff, Nat.reduceAdd, Nat.reduceMul, Nat.reduceSub, reduceCtorEq, l32_0, l32_1, l32_2, l32_3, l32_4, l32_5, l32_32, l32_40, l32_41, l32_59, l32_91, l32_93, l32_123, l32_125, kv, sz, a1, c1, d1, l32_40, l32_41])
      · rw [ef, List.map_append, List.map_append, ← List.append_assoc, ← List.append_assoc]
        exact d2
    have c0 : ¬ kdV (vw x) = 0 := c0
    have key : ∀ (k o c : Nat) (sep : List Int32), (k = 1 ∧ sep = [32] ∨ k = 2 ∧ sep = [] ∨ k = 3 ∧ sep = [59]) → kdV (vw x) = Int32.ofNat k → (k = 1 ∧ o = 91 ∧ c = 93 ∨ k = 2 ∧ o = 123 ∧ c = 125 ∨ k = 3 ∧ o = 40 ∧ c = 41) → fmV (vw x) = [Int32.ofNat o] ++ jn sep ((ptsV (vw x)).map fmN) ++ [Int32.ofNat c] → ∃ t', cf_170 N X rk v (Int32.ofNat dp) t = some (t', .inl none) ∧ cOut t' (l ++ (fmV (vw x)).map nb) ∧ ofr t t' := key
    generalize vw x = V at key c0
    obtain z | r | q | ⟨n, l⟩ := V
    · exact absurd rfl c0
    · exact key 1 91 93 [32] (Or.inl ⟨rfl, rfl⟩) rfl (Or.inl ⟨rfl, rfl, rfl⟩) rfl
    · exact key 2 123 125 [] (Or.inr (Or.inl ⟨rfl, rfl⟩)) rfl (Or.inr (Or.inl ⟨rfl, rfl, rfl⟩)) rfl
    · exact key 3 40 41 [59] (Or.inr (Or.inr ⟨rfl, rfl⟩)) rfl (Or.inr (Or.inr ⟨rfl, rfl, rfl⟩)) rfl
theorem c_formAll (hN0 : 170000 ≤ N) : ∀ (m e dp : Nat) (x : Nod), wfN x → hN x ≤ m → dp + hN x ≤ 6 → tlP (fun v => cf_S2 N X (m + 1 + e) 170 [.long v, .int (Int32.ofNat dp)]) x := by
  intro m
  induction m with
  | zero =>
    intro e dp x hw hm hd
    have e1 : 0 + 1 + e = (0 + e) + 1 := by omega
    rw [e1]
    have key : tlP (fun v => cf_170 N X (cf_S2 N X (0 + e)) v (Int32.ofNat dp)) x := c_formStep hN0 hw hd (fun y hy => by
      have := h_pts hy
      omega)
    exact key
  | succ m ih =>
    intro e dp x hw hm hd
    have e1 : m + 1 + 1 + e = (m + 1 + e) + 1 := by omega
    rw [e1]
    have key : tlP (fun v => cf_170 N X (cf_S2 N X (m + 1 + e)) v (Int32.ofNat dp)) x := c_formStep hN0 hw hd (fun y hy => by
      have := h_pts hy
      exact ih e (dp + 1) y (wf_pts hw y hy) (by omega) (by omega))
    exact key
/-- tell -/
theorem c_tell {x : Nod} (hN0 : 170000 ≤ N) (hw : wfN x) (hx : x.1 ≤ 4) : tlP (fun v => cf_169 N X v) x := by
  intro t l u w v h1 h2 h3 h4
  have hl := hT_le x.1 x.2
  have hl : hN x ≤ x.1 + 2 := hl
  obtain ⟨t', a1, a2, a3⟩ := c_formAll (N := N) (X := X) hN0 6 5 0 x hw (by omega) (by omega) t l u w v h1 h2 h3 h4
  have a1 : cf_S2 N X 12 170 [.long v, .int (Int32.ofNat 0)] t = some (t', .inl none) := a1
  refine ⟨t', ?_, a2, a3⟩
  show cf_169 N X v t = _
  repeat ((first | unfold cf_169 | unfold cf_169_0 | unfold cf_169_7); try simp (disch := omega) only [ev_S, ev_C, ↓reduceIte, Nat.reduceEqDiff, Nat.reduceLeDiff, Nat.reduceAdd, Nat.reduceMul, Nat.reduceSub, reduceCtorEq, l32_0, l32_1, l32_2, l32_3, l32_4, l32_12, a1])
end TEM
