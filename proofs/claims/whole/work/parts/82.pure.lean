/-! ===== PURE: a THING as it is told ===== -/
/-- joined, with sep between -/
def jn (sep : List Int32) : List (List Int32) → List Int32
  | [] => []
  | a :: l => a ++ l.flatMap (fun b => sep ++ b)
theorem jn_take {sep : List Int32} {ls : List (List Int32)} {i : Nat} (hi : i < ls.length) : jn sep (ls.take (i + 1)) = jn sep (ls.take i) ++ ((if i = 0 then [] else sep) ++ ls[i]) := by
  cases ls with
  | nil => exact absurd hi (Nat.not_lt_zero _)
  | cons a l =>
    cases i with
    | zero =>
      show a ++ (l.take 0).flatMap _ = _
      rw [List.take_zero, if_pos rfl]
      show a ++ [] = [] ++ ([] ++ a)
      rw [List.append_nil]
      rfl
    | succ i =>
      have hi : i < l.length := Nat.lt_of_succ_lt_succ hi
      show a ++ (l.take (i + 1)).flatMap _ = (a ++ (l.take i).flatMap _) ++ _
      rw [List.take_succ_eq_append_getElem hi, List.flatMap_append, if_neg (by omega), List.append_assoc]
      rw [List.flatMap_cons, List.flatMap_nil, List.append_nil]
      rfl
def fmRow (r : List Int32) : List Int32 := [91] ++ jn [32] (r.map numL) ++ [93]
def fmP : Pl → List Int32
  | .inl z => numL z
  | .inr (.inl r) => fmRow r
  | .inr (.inr q) => [123] ++ jn [] (q.map fmRow) ++ [125]
def fm : (n : Nat) → Th n → List Int32
  | 0, p => fmP p
  | n + 1, x => match (show Pl ⊕ List (Th n) from x) with
    | .inl p => fmP p
    | .inr l => [40] ++ jn [59] (l.map (fm n)) ++ [41]
abbrev fmN (x : Nod) : List Int32 := fm x.1 x.2
def fmV : Vw → List Int32
  | .inl z => numL z
  | .inr (.inl r) => [91] ++ jn [32] ((r.map nZ).map fmN) ++ [93]
  | .inr (.inr (.inl q)) => [123] ++ jn [] ((q.map nR).map fmN) ++ [125]
  | .inr (.inr (.inr l)) => [40] ++ jn [59] ((l.2.map fun y => (⟨l.1, y⟩ : Nod)).map fmN) ++ [41]
theorem vw_fm : ∀ x : Nod, fmN x = fmV (vw x) := by
  have hP : ∀ p : Pl, fmP p = fmV (vwP p) := fun p => by
    obtain z | r | q := p
    · rfl
    · show [91] ++ jn [32] (r.map numL) ++ [93] = [91] ++ jn [32] ((r.map nZ).map fmN) ++ [93]
      rw [List.map_map]
      rfl
    · show [123] ++ jn [] (q.map fmRow) ++ [125] = [123] ++ jn [] ((q.map nR).map fmN) ++ [125]
      rw [List.map_map]
      rfl
  intro x
  match x with
  | ⟨0, p⟩ => exact hP p
  | ⟨n + 1, x⟩ =>
    obtain p | l := x
    · exact hP p
    · show [40] ++ jn [59] (l.map (fm n)) ++ [41] = [40] ++ jn [59] ((l.map fun y => (⟨n, y⟩ : Nod)).map fmN) ++ [41]
      rw [List.map_map]
      rfl
/-- how high it stands -/
def hP : Pl → Nat
  | .inl _ => 0
  | .inr (.inl _) => 1
  | .inr (.inr _) => 2
def hT : (n : Nat) → Th n → Nat
  | 0, p => hP p
  | n + 1, x => match (show Pl ⊕ List (Th n) from x) with
    | .inl p => hP p
    | .inr l => 1 + mxL (l.map (hT n))
abbrev hN (x : Nod) : Nat := hT x.1 x.2
theorem hT_le : ∀ (n : Nat) (x : Th n), hT n x ≤ n + 2
  | 0, p => by
    obtain z | r | q := p
    · exact Nat.zero_le _
    · exact Nat.le_succ _
    · exact Nat.le_refl _
  | n + 1, x => by
    obtain p | l := x
    · obtain z | r | q := p
      · exact Nat.zero_le _
      · show 1 ≤ n + 1 + 2
        omega
      · show 2 ≤ n + 1 + 2
        omega
    · show 1 + mxL (l.map (hT n)) ≤ n + 1 + 2
      have : mxL (l.map (hT n)) ≤ n + 2 := mxL_le.mpr (fun y hy => by
        obtain ⟨z, -, e⟩ := List.mem_map.mp hy
        rw [← e]
        exact hT_le n z)
      omega
theorem h_pts : ∀ {x y : Nod}, y ∈ pts x → hN y < hN x := by
  have hPl : ∀ {p : Pl} {y : Nod}, y ∈ ptsV (vwP p) → hN y < hP p := fun {p y} hy => by
    obtain z | r | q := p
    · exact (List.not_mem_nil hy).elim
    · obtain ⟨z, -, rfl⟩ := List.mem_map.mp hy
      exact Nat.zero_lt_succ _
    · obtain ⟨z, -, rfl⟩ := List.mem_map.mp hy
      exact Nat.lt_succ_self _
  intro x y hy
  match x, hy with
  | ⟨0, p⟩, hy => exact hPl hy
  | ⟨n + 1, x⟩, hy =>
    obtain p | l := x
    · exact hPl hy
    · obtain ⟨z, hz, rfl⟩ := List.mem_map.mp hy
      show hT n z < 1 + mxL (l.map (hT n))
      have := mxL_le.mp (Nat.le_refl (mxL (l.map (hT n)))) (hT n z) (List.mem_map.mpr ⟨z, hz, rfl⟩)
      omega
theorem h_pos : ∀ {x : Nod}, ¬ kdN x = 0 → 1 ≤ hN x
  | ⟨0, p⟩, h => by
    obtain z | r | q := p
    · exact absurd rfl h
    · exact Nat.le_refl _
    · exact Nat.le_succ _
  | ⟨n + 1, x⟩, h => by
    obtain p | l := x
    · obtain z | r | q := p
      · exact absurd rfl h
      · exact Nat.le_refl _
      · exact Nat.le_succ _
    · exact Nat.le_add_right _ _
theorem numL_len (z : Int32) : (numL z).length ≤ 11 := by
  unfold numL
  rw [List.length_append, List.length_reverse]
  have := dgL_len 9 (wN z)
  have : (if z < 0 then [(45 : Int32)] else []).length ≤ 1 := by
    split
    · exact Nat.le_refl _
    · exact Nat.zero_le _
  omega
theorem jn_len {sep : List Int32} (hs : sep.length ≤ 1) (ls : List (List Int32)) : (jn sep ls).length ≤ (ls.map fun l => l.length + 1).sum := by
  cases ls with
  | nil => exact Nat.le_refl _
  | cons a l =>
    show (a ++ l.flatMap (fun b => sep ++ b)).length ≤ _
    rw [List.length_append, flatMap_len, List.map_cons, List.sum_cons]
    have : (l.map fun x => (sep ++ x).length).sum ≤ (l.map fun l => l.length + 1).sum := sum_le (fun x _ => by rw [List.length_append]; omega)
    omega
theorem fm_len : ∀ (n : Nat) (x : Th n), (fm n x).length + 1 ≤ 15 * bulk n x := by
  have hR : ∀ r : List Int32, (fmRow r).length + 1 ≤ 15 * (1 + r.length) := fun r => by
    unfold fmRow
    rw [List.length_append, List.length_append]
    have h1 := jn_len (sep := [32]) (Nat.le_refl _) (r.map numL)
    rw [List.map_map] at h1
    have h2 : (r.map ((fun l : List Int32 => l.length + 1) ∘ numL)).sum ≤ (r.map fun _ => 12).sum := sum_le (fun z _ => by show (numL z).length + 1 ≤ 12; have := numL_len z; omega)
    rw [sum_c] at h2
    show 1 + (jn [32] (r.map numL)).length + 1 + 1 ≤ _
    omega
  have hPl : ∀ p : Pl, (fmP p).length + 1 ≤ 15 * bulkP p := fun p => by
    obtain z | r | q := p
    · have := numL_len z
      show (numL z).length + 1 ≤ 15 * 1
      omega
    · exact hR r
    · show ([123] ++ jn [] (q.map fmRow) ++ [125]).length + 1 ≤ 15 * (1 + (q.map fun r => 1 + r.length).sum)
      rw [List.length_append, List.length_append]
      have h1 := jn_len (sep := []) (Nat.zero_le _) (q.map fmRow)
      rw [List.map_map] at h1
      have h2 : (q.map ((fun l : List Int32 => l.length + 1) ∘ fmRow)).sum ≤ (q.map fun r => 15 * (1 + r.length)).sum := sum_le (fun r _ => hR r)
      rw [sum_mul] at h2
      show 1 + (jn [] (q.map fmRow)).length + 1 + 1 ≤ _
      omega
  intro n
  induction n with
  | zero => exact hPl
  | succ n ih =>
    intro x
    obtain p | l := x
    · exact hPl p
    · show ([40] ++ jn [59] (l.map (fm n)) ++ [41]).length + 1 ≤ 15 * (1 + (l.map (bulk n)).sum)
      rw [List.length_append, List.length_append]
      have h1 := jn_len (sep := [59]) (Nat.le_refl _) (l.map (fm n))
      rw [List.map_map] at h1
      have h2 : (l.map ((fun l : List Int32 => l.length + 1) ∘ fm n)).sum ≤ (l.map fun y => 15 * bulk n y).sum := sum_le (fun y _ => ih y)
      rw [sum_mul] at h2
      show 1 + (jn [59] (l.map (fm n))).length + 1 + 1 ≤ _
      omega
section TEL
variable {N : Nat} {X : Nat → Option zz_C} {t t' : cS} {u w : Nat} {l : List Int32}
theorem ofr.hp (h : ofr t t') (hl : (kA t' 46).1 ≤ 600) (hh : cHp t u w) : cHp t' u w ∧ kB t' 43 = kB t 43 ∧ kB t' 44 = kB t 44 := by
  obtain ⟨a1, a2, a3, a4, a5, a6, a8, a9, a10⟩ := h
  obtain ⟨h1, h2, h3, h4, h5, h6, h7, h8, h9⟩ := hh
  have e43 := (a4 43 (by omega) (by omega) (by omega)).2.1
  have e44 := (a4 44 (by omega) (by omega) (by omega)).2.1
  refine ⟨⟨by rw [a1 _ _ (by omega)]; exact h1, by rw [a1 _ _ (by omega)]; exact h2, by rw [e43]; exact h3, by rw [e44]; exact h4, by rw [e44]; exact h5, by rw [e43]; exact h6, by rw [e43]; exact h7, by rw [e44]; exact h8, ⟨?_, hl⟩⟩, e43, e44⟩
  have := h9.1
  omega
theorem cOut.l6 (h : cOut t l) : (kA t 46).1 ≤ 600 := by
  rcases h.2.2.2.2.1 with e | e | e | e | e <;> omega
/-- the part at i -/
theorem c_part {v : Int64} {x : Nod} (hh : cHp t u w) (h : cN (cel t) u v x) {i : Nat} (hi : i < (pts x).length) : ∃ v', cf_129 N X v (Int32.ofNat i) t = some (t, .inl (some (.long v'))) ∧ cN (cel t) u v' (pts x)[i] := by
  have h := cN_iff.mp h
  have key : ∀ V, cV (cel t) u v V → ∀ i (hi : i < (ptsV V).length), ∃ v', cf_129 N X v (Int32.ofNat i) t = some (t, .inl (some (.long v'))) ∧ cN (cel t) u v' (ptsV V)[i] := by
    intro V h i hi
    obtain z | r | q | ⟨n, l⟩ := V
    · exact absurd hi (Nat.not_lt_zero _)
    · have hi' : i < r.length := by
        have : (r.map nZ).length = r.length := List.length_map _
        rw [← this]
        exact hi
      have hi2 : i < (r.map nZ).length := hi
      have g : cN (cel t) u (tg 0 r[i]) ((r.map nZ)[i]'hi2) := by
        rw [List.getElem_map]
        rfl
      exact ⟨_, c_partR hh h hi', g⟩
    · have hi' : i < q.length := by
        have : (q.map nR).length = q.length := List.length_map _
        rw [← this]
        exact hi
      obtain ⟨v', a1, a2⟩ := c_partT (N := N) (X := X) hh h hi'
      have hi2 : i < (q.map nR).length := hi
      have g : cN (cel t) u v' ((q.map nR)[i]'hi2) := by
        rw [List.getElem_map]
        exact a2
      exact ⟨v', a1, g⟩
    · have hi' : i < l.length := by
        have : (l.map fun y => (⟨n, y⟩ : Nod)).length = l.length := List.length_map _
        rw [← this]
        exact hi
      obtain ⟨v', a1, a2⟩ := c_partP (N := N) (X := X) hh h hi'
      have hi2 : i < (l.map fun y => (⟨n, y⟩ : Nod)).length := hi
      have g : cN (cel t) u v' ((l.map fun y => (⟨n, y⟩ : Nod))[i]'hi2) := by
        rw [List.getElem_map]
        exact a2
      exact ⟨v', a1, g⟩
  exact key _ h i hi
/-- what is asked of a call that tells x -/
def tlP (call : Int64 → cS → kO) (x : Nod) : Prop := ∀ (t : cS) (l : List Int32) (u w : Nat) (v : Int64), cOut t l → cHp t u w → cN (cel t) u v x → l.length + 15 * bulkN x < 1600000000 → ∃ t', call v t = some (t', .inl none) ∧ cOut t' (l ++ (fmN x).map nb) ∧ ofr t t'
/-- the parts, one after the other -/
theorem c_formL {rk : Nat → List Value → cS → kO} {dp k : Nat} {x : Nod} {v : Int64} {sep : List Int32} (hk : k = 1 ∧ sep = [32] ∨ k = 2 ∧ sep = [] ∨ k = 3 ∧ sep = [59]) (hz : (pts x).length ≤ 64) (hdp : dp ≤ 6) (hc : ∀ y ∈ pts x, tlP (fun v => rk 170 [.long v, .int (Int32.ofNat (dp + 1))]) y) : ∀ (d i q : Nat) (t : cS) (l0 : List Int32), i + d = (pts x).length → cOut t (l0 ++ (jn sep (((pts x).map fmN).take i)).map nb) → cHp t u w → cN (cel t) u v x → l0.length + 15 * ((pts x).map bulkN).sum + 10 < 1600000000 → ∃ t', cf_170_L10 N X rk (q + (d + 1)) 0 v (Int32.ofNat dp) (Int32.ofNat k) (Int32.ofNat (pts x).length) (Int32.ofNat i) t = cf_170_121 N X rk (Int32.ofNat k) t' ∧ cOut t' (l0 ++ (jn sep ((pts x).map fmN)).map nb) ∧ ofr t t' := by
  intro d
  induction d with
  | zero =>
    intro i q t l0 hi h1 h2 h3 h4
    have hi : i = (pts x).length := hi
    have hl : ((pts x).map fmN).length = (pts x).length := List.length_map _
    rw [hi, ← hl, List.take_length] at h1
    refine ⟨t, ?_, h1, ofr.rf⟩
    show cf_170_64 N X rk (cf_170_L10 N X rk q) v (Int32.ofNat dp) (Int32.ofNat k) (Int32.ofNat (pts x).length) (Int32.ofNat i) t = _
    unfold cf_170_64
    simp (disch := omega) only [ev_S, ev_C, ↓reduceIte, Nat.reduceEqDiff, Nat.reduceLeDiff, Nat.reduceAdd, Nat.reduceMul, Nat.reduceSub, reduceCtorEq, l32_0, l32_1, l32_2, l32_3, l32_4, l32_5, l32_6, l32_7, l32_8, l32_9, l32_10, hi]
  | succ d ih =>
    intro i q t l0 hi h1 h2 h3 h4
    have hi1 : i < (pts x).length := by omega
    have hl : ((pts x).map fmN).length = (pts x).length := List.length_map _
    have hb1 : (jn sep (((pts x).map fmN).take i)).length + 15 * bulkN (pts x)[i] ≤ 15 * ((pts x).map bulkN).sum := by
      have q1 := jn_len (sep := sep) (by rcases hk with ⟨-, rfl⟩ | ⟨-, rfl⟩ | ⟨-, rfl⟩ <;> decide) (((pts x).map fmN).take i)
      rw [← List.map_take, List.map_map] at q1
      have q3 : (((pts x).take i).map ((fun l : List Int32 => l.length + 1) ∘ fmN)).sum ≤ (((pts x).take i).map fun y => 15 * bulkN y).sum := sum_le (fun y _ => fm_len y.1 y.2)
      rw [sum_mul] at q3
      have q2 : (((pts x).take i).map bulkN).sum + (((pts x).drop i).map bulkN).sum = ((pts x).map bulkN).sum := by
        rw [← List.sum_append_nat, ← List.map_append, List.take_append_drop]
      rw [List.drop_eq_getElem_cons hi1, List.map_cons, List.sum_cons] at q2
      rw [← List.map_take]
      omega
    have hbp := bulk_pos (pts x)[i].1 (pts x)[i].2
    have hbp : 1 ≤ bulkN (pts x)[i] := hbp
    have ejn := jn_take (sep := sep) (ls := (pts x).map fmN) (i := i) (by rw [hl]; exact hi1)
    rw [List.getElem_map] at ejn
    have hll : (l0 ++ (jn sep (((pts x).map fmN).take i)).map nb).length = l0.length + (jn sep (((pts x).map fmN).take i)).length := by rw [List.length_append, List.length_map]
    -- what stands between
    have hsep : ∃ t1, cOut t1 (l0 ++ (jn sep (((pts x).map fmN).take i)).map nb ++ (if i = 0 then [] else sep).map nb) ∧ ofr t t1 ∧ cf_170_64 N X rk (cf_170_L10 N X rk (q + (d + 1))) v (Int32.ofNat dp) (Int32.ofNat k) (Int32.ofNat (pts x).length) (Int32.ofNat i) t = cf_170_99 N X rk (cf_170_L10 N X rk (q + (d + 1))) v (Int32.ofNat dp) (Int32.ofNat k) (Int32.ofNat (pts x).length) (Int32.ofNat i) t1 := by
      by_cases c0 : i = 0
      · refine ⟨t, ?_, ofr.rf, ?_⟩
        · rw [if_pos c0]
          show cOut t (_ ++ [])
          rw [List.append_nil]
          exact h1
        · unfold cf_170_64 cf_170_71
          simp (disch := omega) only [ev_S, ev_C, ↓reduceIte, Nat.reduceEqDiff, Nat.reduceLeDiff, Nat.reduceAdd, Nat.reduceMul, Nat.reduceSub, reduceCtorEq, l32_0, l32_1, l32_2, l32_3, l32_4, l32_5, l32_6, l32_7, l32_8, l32_9, l32_10, c0]
      · rw [if_neg c0]
        rcases hk with ⟨rfl, rfl⟩ | ⟨rfl, rfl⟩ | ⟨rfl, rfl⟩
        · obtain ⟨t1, a1, a2, a3, -⟩ := c_says (N := N) (X := X) (c := Int32.ofNat 32) h1 (by omega)
          refine ⟨t1, a2, a3, ?_⟩
          unfold cf_170_64 cf_170_71 cf_170_76 cf_170_82 cf_170_89 cf_170_96
          simp (disch := omega) only [ev_S, ev_C, ↓reduceIte, Nat.reduceEqDiff, Nat.reduceLeDiff, Nat.reduceAdd, Nat.reduceMul, Nat.reduceSub, reduceCtorEq, l32_0, l32_1, l32_2, l32_3, l32_4, l32_5, l32_6, l32_7, l32_8, l32_9, l32_10, a1, l32_32]
        · refine ⟨t, ?_, ofr.rf, ?_⟩
          · show cOut t (_ ++ [])
            rw [List.append_nil]
            exact h1
          · unfold cf_170_64 cf_170_71 cf_170_76
            simp (disch := omega) only [ev_S, ev_C, ↓reduceIte, Nat.reduceEqDiff, Nat.reduceLeDiff, Nat.reduceAdd, Nat.reduceMul, Nat.reduceSub, reduceCtorEq, l32_0, l32_1, l32_2, l32_3, l32_4, l32_5, l32_6, l32_7, l32_8, l32_9, l32_10, c0]
        · obtain ⟨t1, a1, a2, a3, -⟩ := c_says (N := N) (X := X) (c := Int32.ofNat 59) h1 (by omega)
          refine ⟨t1, a2, a3, ?_⟩
          unfold cf_170_64 cf_170_71 cf_170_76 cf_170_82 cf_170_94 cf_170_96
          simp (disch := omega) only [ev_S, ev_C, ↓reduceIte, Nat.reduceEqDiff, Nat.reduceLeDiff, Nat.reduceAdd, Nat.reduceMul, Nat.reduceSub, reduceCtorEq, l32_0, l32_1, l32_2, l32_3, l32_4, l32_5, l32_6, l32_7, l32_8, l32_9, l32_10, a1, l32_59]
    obtain ⟨t1, a1, a2, a3⟩ := hsep
    obtain ⟨b1, b2, b3⟩ := a2.hp a1.l6 h2
    have h3' : cN (cel t1) u v x := by
      show cN (kB t1 43).2 u v x
      rw [b2]
      exact h3
    obtain ⟨v', p1, p2⟩ := c_part (N := N) (X := X) b1 h3' hi1
    have hsl : ((if i = 0 then [] else sep).map nb).length ≤ 1 := by
      rw [List.length_map]
      rcases hk with ⟨-, rfl⟩ | ⟨-, rfl⟩ | ⟨-, rfl⟩ <;> split <;> decide
    obtain ⟨t2, c1, c2, c3⟩ := hc _ (List.getElem_mem hi1) t1 _ u w v' a1 b1 p2 (by rw [List.length_append, hll]; omega)
    have c1 : rk 170 [.long v', .int (Int32.ofNat (dp + 1))] t1 = some (t2, .inl none) := c1
    obtain ⟨d1, d2, d3⟩ := c3.hp c2.l6 b1
    have c2' : cOut t2 (l0 ++ (jn sep (((pts x).map fmN).take (i + 1))).map nb) := by
      rw [ejn, List.map_append, List.map_append, ← List.append_assoc, ← List.append_assoc]
      exact c2
    obtain ⟨t', k1, k2, k3⟩ := ih (i + 1) q t2 l0 (by omega) c2' d1 (by
      show cN (kB t2 43).2 u v x
      rw [d2]
      exact h3') h4
    refine ⟨t', ?_, k2, (a2.tr c3).tr k3⟩
    rw [← k1]
    show cf_170_64 N X rk (cf_170_L10 N X rk (q + (d + 1))) v (Int32.ofNat dp) (Int32.ofNat k) (Int32.ofNat (pts x).length) (Int32.ofNat i) t = _
    rw [a3]
    unfold cf_170_99 cf_170_108 cf_170_115
    simp (disch := omega) only [ev_S, ev_C, ↓reduceIte, Nat.reduceEqDiff, Nat.reduceLeDiff, Nat.reduceAdd, Nat.reduceMul, Nat.reduceSub, reduceCtorEq, l32_0, l32_1, l32_2, l32_3, l32_4, l32_5, l32_6, l32_7, l32_8, l32_9, l32_10, p1, c1]
end TEL
