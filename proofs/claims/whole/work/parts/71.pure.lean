/-! ===== PURE: the class builds a THING (3) ===== -/
theorem map_cs {l : List Nod} {α : Type} {g : Nod → α} {h : Th 3 → α} (e : ∀ x ∈ l, h (cs 3 x) = g x) : (l.map (cs 3)).map h = l.map g := by
  rw [List.map_map]
  exact List.map_congr_left e
/-- one cell more put on the heap of t2 -/
theorem hfr_jB {t : cS} {g : Nat → Int64} {k : Nat} (h : k = 43 ∨ k = 44) : hfr t (jB t k g) := by
  have h1 : pot (jB t k g) = pot t := by
    rcases h with rfl | rfl <;> rfl
  have h2 : poq (jB t k g) = poq t := by
    rcases h with rfl | rfl <;> rfl
  refine ⟨fun _ _ _ => rfl, rfl, rfl, fun q r1 r2 r3 => ⟨rfl, if_neg (by omega), rfl⟩, rfl, rfl, Nat.le_refl _, ?_, ?_⟩
  · rw [h1]
    exact Nat.le_refl _
  · rw [h2]
    exact Nat.le_refl _
theorem cHp_jB {t : cS} {u w : Nat} {g : Nat → Int64} (h : cHp t u w) : cHp (jB t 43 g) u w := h
section CBF
variable {N : Nat} {X : Nat → Option zz_C} {t : cS} {u f k : Nat} {xs : List Nod}
def totk (k : Nat) (xs : List Nod) : Nat := if k = 1 then 0 else (xs.map (wt k)).sum
def depk (k : Nat) (xs : List Nod) : Nat := if k = 1 then 0 else mxL (xs.map dN)
theorem wt_sum (hw : ∀ x ∈ xs, wfN x) : (xs.map (wt k)).sum ≤ 600 * xs.length := by
  have : (xs.map (wt k)).sum ≤ (xs.map fun _ => 600).sum := sum_le (fun x hx => wt_le (hw x hx))
  rw [sum_c] at this
  exact this
theorem c_b106a (hh : cHp t u (f + xs.length)) (hf : f + xs.length ≤ 200000) : cf_126 N X (Int32.ofNat k) (Int32.ofNat f) t = cf_126_L23 N X N 0 (Int32.ofNat k) (Int32.ofNat f) (Int32.ofNat xs.length) 0 0 (Int32.ofNat f) (jI t 42 3 (Int32.ofNat f)) := by
  obtain ⟨h1, h2, h3, h4, h5, h6, h7, h8, h9⟩ := hh
  have es : f + xs.length - f = xs.length := by omega
  repeat ((first | unfold cf_126 | unfold cf_126_0 | unfold cf_126_11 | unfold cf_126_15 | unfold cf_126_19 | unfold cf_126_20 | unfold cf_126_34 | unfold cf_126_39 | unfold cf_126_47 | unfold cf_126_54 | unfold cf_126_65 | unfold cf_126_68 | unfold cf_126_79 | unfold cf_126_95 | unfold cf_126_106 | unfold cf_126_112 | unfold cf_126_117 | unfold cf_126_119 | unfold cf_126_122 | unfold cf_126_127 | unfold cf_126_135 | unfold cf_126_140 | unfold cf_126_150 | unfold cf_126_158 | unfold cf_126_162 | unfold cf_126_163 | unfold cf_126_193 | unfold cf_126_210 | unfold cf_126_224 | unfold cf_126_239 | unfold cf_126_244 | unfold cf_126_272 | unfold cf_126_275 | unfold cf_126_281 | unfold cf_126_297 | unfold cf_126_309 | unfold cf_126_320 | unfold cf_126_327 | unfold cf_126_333); try simp (disch := omega) only [ev_S, ev_C, ↓reduceIte, Nat.reduceEqDiff, Nat.reduceLeDiff, Nat.reduceAdd, Nat.reduceMul, Nat.reduceSub, reduceCtorEq, l32_0, l32_1, l32_2, l32_3, l32_4, l32_20, l32_42, l32_43, l32_44, l32_64, l32_200, l32_600, h2, es])
theorem L23_s {q : Nat} {t : cS} {x1 x2 x3 x4 x5 x6 : Int32} : cf_126_L23 N X (q + 1) 0 x1 x2 x3 x4 x5 x6 t = cf_126_34 N X (cf_126_L23 N X q) x1 x2 x3 x4 x5 x6 t := rfl
theorem c_b106b {q : Nat} {t : cS} : cf_126_L23 N X (q + 1) 0 (Int32.ofNat 1) (Int32.ofNat f) (Int32.ofNat xs.length) 0 0 (Int32.ofNat f) t = cf_126_106 N X (Int32.ofNat 1) (Int32.ofNat f) (Int32.ofNat xs.length) (Int32.ofNat (totk 1 xs)) (Int32.ofNat (depk 1 xs)) t := by
  rw [L23_s]
  have e1 : totk 1 xs = 0 := if_pos rfl
  have e2 : depk 1 xs = 0 := if_pos rfl
  unfold cf_126_34
  simp (disch := omega) only [ev_S, ↓reduceIte, l32_0, l32_1, e1, e2, Nat.reduceLeDiff]
theorem c_b106c (hk : k = 2 ∨ k = 3) (hh : cHp t u (f + xs.length)) (hr : reps (cel t) u (prt t) f xs) (hw : ∀ x ∈ xs, wfN x) (hd : ∀ x ∈ xs, dN x ≤ 4) (hl : xs.length ≤ 3000) (q : Nat) : cf_126_L23 N X (q + (xs.length + 1)) 0 (Int32.ofNat k) (Int32.ofNat f) (Int32.ofNat xs.length) 0 0 (Int32.ofNat f) (jI t 42 3 (Int32.ofNat f)) = cf_126_106 N X (Int32.ofNat k) (Int32.ofNat f) (Int32.ofNat xs.length) (Int32.ofNat (totk k xs)) (Int32.ofNat (depk k xs)) (jI t 42 3 (Int32.ofNat f)) := by
  obtain ⟨h1, h2, h3, h4, h5, h6, h7, h8, h9⟩ := hh
  have h0 : cHp (jI t 42 3 (Int32.ofNat f)) u f := ⟨h1, rfl, h3, by show f ≤ (kB t 44).1; omega, h5, h6, h7, h8, h9⟩
  have e := c_total (N := N) (X := X) (k := k) (t := jI t 42 3 (Int32.ofNat f)) (f := f) (xs := xs) hk h0 hr h4 hw hd hl xs.length 0 q 0 0 (Nat.zero_add _) (Nat.zero_le _) (Nat.zero_le _)
  rw [List.drop_zero, Nat.zero_add] at e
  unfold totk depk
  rw [if_neg (by omega), if_neg (by omega)]
  refine e.trans ?_
  rw [show Nat.max 0 (mxL (xs.map dN)) = mxL (xs.map dN) from Nat.max_eq_right (Nat.zero_le _)]
theorem c_b106 (hN : 170000 ≤ N) (hk : k = 1 ∨ k = 2 ∨ k = 3) (hh : cHp t u (f + xs.length)) (hr : reps (cel t) u (prt t) f xs) (hw : ∀ x ∈ xs, wfN x) (hd : ∀ x ∈ xs, dN x ≤ 4) (hl : xs.length ≤ 3000) (hf : f ≤ 100000) : cf_126 N X (Int32.ofNat k) (Int32.ofNat f) t = cf_126_106 N X (Int32.ofNat k) (Int32.ofNat f) (Int32.ofNat xs.length) (Int32.ofNat (totk k xs)) (Int32.ofNat (depk k xs)) (jI t 42 3 (Int32.ofNat f)) := by
  rw [c_b106a hh (by omega)]
  by_cases c : k = 1
  · have e2 : N = (N - 1) + 1 := by omega
    subst c
    generalize N - 1 = q at e2
    rw [show cf_126_L23 N X N = cf_126_L23 N X (q + 1) from congrArg _ e2]
    exact c_b106b
  · have e2 : N = (N - (xs.length + 1)) + (xs.length + 1) := by omega
    generalize N - (xs.length + 1) = q at e2
    rw [show cf_126_L23 N X N = cf_126_L23 N X (q + (xs.length + 1)) from congrArg _ e2]
    exact c_b106c (by omega) hh hr hw hd hl q
theorem mk_wf (hok : mkOk k xs) (hw : ∀ x ∈ xs, wfN x) {y : Nod} (h : mk k xs = some y) : wfN y ∧ y.1 = 4 := by
  unfold mk at h
  rcases hok with ⟨rfl, ho⟩ | ⟨rfl, ho⟩ | rfl
  · rw [if_pos rfl] at h
    split at h
    · cases h
      refine ⟨?_, rfl⟩
      show (xs.map ivN).length ≤ 64
      rw [List.length_map]
      assumption
    · cases h
  · rw [if_neg (by decide), if_pos rfl] at h
    split at h
    · rename_i c
      cases h
      refine ⟨?_, rfl⟩
      have hs : ((xs.map rvN).map List.length) = xs.map szN := by
        rw [List.map_map]
        refine List.map_congr_left (fun x hx => ?_)
        show (rvN x).length = szV (vw x)
        rw [kd1 (ho x hx)]
        rfl
      refine ⟨by rw [List.length_map]; exact c.1, by rw [hs]; exact c.2, fun r hr => ?_⟩
      obtain ⟨x, hx, rfl⟩ := List.mem_map.mp hr
      have := vw_wf x (hw x hx)
      rw [kd1 (ho x hx)] at this
      exact this
    · cases h
  · rw [if_neg (by decide), if_neg (by decide)] at h
    split at h
    · rename_i c
      cases h
      refine ⟨?_, rfl⟩
      have hd : ∀ x ∈ xs, dN x ≤ 3 := fun x hx => mxL_le.mp (show mxL (xs.map dN) ≤ 3 by omega) _ (List.mem_map.mpr ⟨x, hx, rfl⟩)
      have hb : ((xs.map (cs 3)).map (bulk 3)) = xs.map bulkN := map_cs (fun x hx => cs_bulk (hd x hx))
      refine ⟨by rw [List.length_map]; exact c.1, by rw [hb]; exact c.2.1, fun z hz => ?_⟩
      obtain ⟨x, hx, rfl⟩ := List.mem_map.mp hz
      exact cs_wf (hd x hx) (hw x hx)
    · cases h
/-- what t' is to t, where a THING has been built upon it -/
def blt (t t' : cS) (u u' f : Nat) : Prop := cHp t' u' f ∧ hfr t t' ∧ u ≤ u' ∧ (∀ y, y < u → cel t' y = cel t y) ∧ (∀ y, y < f → prt t' y = prt t y)
theorem c_build (hN : 170000 ≤ N) (hok : mkOk k xs) (hh : cHp t u (f + xs.length)) (hr : reps (cel t) u (prt t) f xs) (hw : ∀ x ∈ xs, wfN x) (hd : ∀ x ∈ xs, dN x ≤ 4) (hl : xs.length ≤ 3000) (hf : f ≤ 100000) (hu : u ≤ 166000) : (∃ y, mk k xs = some y ∧ ∃ t' v, cf_126 N X (Int32.ofNat k) (Int32.ofNat f) t = some (t', .inl (some (.long v))) ∧ blt t t' u (u + k + xs.length) f ∧ cN (cel t') (u + k + xs.length) v y) ∨ (mk k xs = none ∧ ∃ t', cf_126 N X (Int32.ofNat k) (Int32.ofNat f) t = some (t', .inl (some (.long (rf 2)))) ∧ blt t t' u u f) := by
  have hk : k = 1 ∨ k = 2 ∨ k = 3 := by
    rcases hok with ⟨h, -⟩ | ⟨h, -⟩ | h
    · exact Or.inl h
    · exact Or.inr (Or.inl h)
    · exact Or.inr (Or.inr h)
  rw [c_b106 hN hk hh hr hw hd hl hf]
  have hh' := hh
  obtain ⟨h1, h2, h3, h4, h5, h6, h7, h8, h9⟩ := hh'
  have hts := wt_sum (k := k) hw
  have hdm : mxL (xs.map dN) ≤ 4 := mxL_le.mpr (fun y hy => by
    obtain ⟨x, hx, rfl⟩ := List.mem_map.mp hy
    exact hd x hx)
  have h0 : cHp (jI t 42 3 (Int32.ofNat f)) u f := ⟨h1, rfl, h3, by show f ≤ (kB t 44).1; omega, h5, h6, h7, h8, h9⟩
  have f0 : hfr t (jI t 42 3 (Int32.ofNat f)) := ⟨fun k f r => if_neg (fun q => r ⟨q.1, Or.inr q.2⟩), rfl, rfl, fun k r1 r2 r3 => ⟨rfl, rfl, rfl⟩, rfl, rfl, Nat.le_refl _, Nat.le_refl _, Nat.le_refl _⟩
  have hno : ∃ t', cf_126_158 N X (jI t 42 3 (Int32.ofNat f)) = some (t', .inl (some (.long (rf 2)))) ∧ blt t t' u u f := ⟨_, rfl, h0, f0, Nat.le_refl _, fun _ _ => rfl, fun _ _ => rfl⟩
  -- what is built, once its size is good
  have hyes : xs.length ≤ 64 → ∀ g0 : cS → Nat → Int64, (∀ t2, cHp t2 (u + k + xs.length) f → cf_126_210 N X (Int32.ofNat k) (Int32.ofNat f) (Int32.ofNat xs.length) (Int32.ofNat (totk k xs)) (Int32.ofNat (depk k xs)) (Int32.ofNat u) t2 = cf_126_L6 N X N 0 (Int32.ofNat k) (Int32.ofNat f) (Int32.ofNat xs.length) (Int32.ofNat u) 0 (jB t2 43 (g0 t2))) → (∀ t2 y, y < u → g0 t2 y = cel t2 y) → ∃ t2 t', hfr t t2 ∧ (∀ y, y < u → cel t2 y = cel t y) ∧ kB t2 44 = kB t 44 ∧ cf_126_163 N X (Int32.ofNat k) (Int32.ofNat f) (Int32.ofNat xs.length) (Int32.ofNat (totk k xs)) (Int32.ofNat (depk k xs)) (jI t 42 3 (Int32.ofNat f)) = some (t', .inl (some (.long (tg (Int32.ofNat k) (Int32.ofNat u))))) ∧ blt t t' u (u + k + xs.length) f ∧ cel t' = fil t2 (g0 t2) k f u xs.length 0 := by
    intro hl64 g0 hg hgu
    obtain ⟨t2, r1, r2, r3, r4, r5⟩ := c_room (N := N) (X := X) (tot := Int32.ofNat (totk k xs)) (dep := Int32.ofNat (depk k xs)) (n := xs.length) hk h0 (by omega)
    have r2' := r2
    obtain ⟨a1, a2, a3, a4, a5, a6, a7, a8, a9⟩ := r2'
    have r5' : kB t2 44 = kB t 44 := r5
    have ef := c_fill (N := N) (X := X) (t := t2) (k := k) (n := xs.length) (u := u) (f := f) hk a3 a7 (by rw [r5]; exact h4) a8 xs.length 0 (N - (xs.length + 1)) (g0 t2) (Nat.zero_add _)
    rw [show N - (xs.length + 1) + (xs.length + 1) = N by omega] at ef
    refine ⟨t2, jB t2 43 (fil t2 (g0 t2) k f u xs.length 0), hfr.tr f0 r3, r4, r5, r1.trans ((hg t2 r2).trans ef), ⟨cHp_jB r2, hfr.tr f0 (hfr.tr r3 (hfr_jB (Or.inl rfl))), by omega, fun y hy => ?_, fun y hy => ?_⟩, rfl⟩
    · show fil t2 (g0 t2) k f u xs.length 0 y = _
      unfold fil
      rw [if_neg (by omega), hgu t2 y hy]
      exact r4 y hy
    · show (kB t2 44).2 y = (kB t 44).2 y
      rw [r5']
  rcases hok with ⟨rfl, ho⟩ | ⟨rfl, ho⟩ | rfl
  · by_cases c : xs.length ≤ 64
    · refine Or.inl ⟨mkR xs, by unfold mk; rw [if_pos rfl, if_pos c], ?_⟩
      obtain ⟨t2, t', q1, q2, q3, q4, q5, q6⟩ := hyes c (fun t2 => vp_updL (cel t2) u (Int32.toInt64 (Int32.ofNat xs.length))) (fun t2 ht2 => by
        obtain ⟨a1, a2, a3, a4, a5, a6, a7, a8, a9⟩ := ht2
        unfold cf_126_210 cf_126_239 cf_126_272
        simp (disch := omega) only [ev_S, ev_C, ↓reduceIte, Nat.reduceEqDiff, Nat.reduceLeDiff, Nat.reduceAdd, Nat.reduceMul, Nat.reduceSub, reduceCtorEq, l32_0, l32_1, l32_2, l32_3, l32_4, l32_5, l32_6, l32_7, l32_8, l32_9, l32_10, a1]) (fun t2 y hy => updL_n (by omega))
      refine ⟨t', tg (Int32.ofNat 1) (Int32.ofNat u), ?_, q5, ?_⟩
      · rw [← q4]
        unfold cf_126_106 cf_126_112 cf_126_119 cf_126_122 cf_126_135
        simp (disch := omega) only [ev_S, ↓reduceIte, Nat.reduceEqDiff, l32_0, l32_1, l32_2, l32_3, l32_64]
      · rw [q6]
        refine ⟨u, rfl, by rw [List.length_map]; omega, ?_, fun i hi => ?_⟩
        · unfold fil
          rw [if_neg (by omega), updL_s, List.length_map]
        · rw [List.length_map] at hi
          have hx := hr i hi
          rw [cN_iff, kd0 (ho _ (List.getElem_mem hi))] at hx
          have hx : (kB t 44).2 (f + i) = tg 0 (ivN xs[i]) := hx
          unfold fil
          rw [if_pos (by omega), show f + (u + 1 + i - (u + 1)) = f + i by omega, show prt t2 (f + i) = tg 0 (ivN xs[i]) by rw [← hx]; show (kB t2 44).2 _ = _; rw [q3], List.getElem_map]
          show Int32.toInt64 (Int64.toInt32 (tg 0 (ivN xs[i]))) = _
          rw [tg_low]
    · refine Or.inr ⟨by unfold mk; rw [if_pos rfl, if_neg c], ?_⟩
      obtain ⟨t', e1, e2⟩ := hno
      refine ⟨t', ?_, e2⟩
      rw [← e1]
      unfold cf_126_106 cf_126_112 cf_126_119
      simp (disch := omega) only [ev_S, ↓reduceIte, Nat.reduceEqDiff, l32_0, l32_1, l32_2, l32_3, l32_64]
  · have et : totk 2 xs = (xs.map szN).sum := rfl
    have hts : (xs.map szN).sum ≤ 600 * xs.length := hts
    have hlen : ((xs.map rvN).map List.length).sum = (xs.map szN).sum := by
      rw [List.map_map]
      refine congrArg List.sum (List.map_congr_left (fun x hx => ?_))
      show (rvN x).length = szV (vw x)
      rw [kd1 (ho x hx)]
      rfl
    by_cases c : xs.length ≤ 20 ∧ (xs.map szN).sum ≤ 200
    · obtain ⟨c1, c2⟩ := c
      refine Or.inl ⟨mkT xs, by unfold mk; rw [if_neg (by decide), if_pos rfl, if_pos ⟨c1, c2⟩], ?_⟩
      obtain ⟨t2, t', q1, q2, q3, q4, q5, q6⟩ := hyes (by omega) (fun t2 => vp_updL (vp_updL (cel t2) u (Int32.toInt64 (Int32.ofNat xs.length))) (u + 1) (Int32.toInt64 (Int32.ofNat (totk 2 xs)))) (fun t2 ht2 => by
        obtain ⟨a1, a2, a3, a4, a5, a6, a7, a8, a9⟩ := ht2
        unfold cf_126_210 cf_126_224 cf_126_272
        simp (disch := omega) only [ev_S, ev_C, ↓reduceIte, Nat.reduceEqDiff, Nat.reduceLeDiff, Nat.reduceAdd, Nat.reduceMul, Nat.reduceSub, reduceCtorEq, l32_0, l32_1, l32_2, l32_3, l32_4, l32_5, l32_6, l32_7, l32_8, l32_9, l32_10, a1, jB_jB]) (fun t2 y hy => by rw [updL_n (by omega), updL_n (by omega)])
      refine ⟨t', tg (Int32.ofNat 2) (Int32.ofNat u), ?_, q5, ?_⟩
      · rw [← q4]
        unfold cf_126_106 cf_126_117 cf_126_119 cf_126_122 cf_126_127 cf_126_135
        simp (disch := omega) only [ev_S, ↓reduceIte, Nat.reduceEqDiff, l32_0, l32_1, l32_2, l32_3, l32_20, l32_200, et]
      · rw [q6]
        refine ⟨u, rfl, by rw [List.length_map]; omega, ?_, ?_, fun i hi => ?_⟩
        · unfold fil
          rw [if_neg (by omega), updL_n (by omega), updL_s, List.length_map]
        · unfold fil
          rw [if_neg (by omega), updL_s, hlen, et]
        · rw [List.length_map] at hi
          have hx := hr i hi
          rw [cN_iff, kd1 (ho _ (List.getElem_mem hi))] at hx
          obtain ⟨b, b1, b2⟩ := hx
          have b1 : (kB t 44).2 (f + i) = tg 1 (Int32.ofNat b) := b1
          refine ⟨b, ?_, ?_⟩
          · unfold fil
            rw [if_pos (by omega), show f + (u + 2 + i - (u + 2)) = f + i by omega, show prt t2 (f + i) = tg 1 (Int32.ofNat b) by rw [← b1]; show (kB t2 44).2 _ = _; rw [q3]]
            show Int32.toInt64 (Int64.toInt32 (tg 1 (Int32.ofNat b))) = _
            rw [tg_low]
          · rw [List.getElem_map]
            refine b2.mono (fun y hy => ?_) (by omega)
            rw [← q6]
            exact q5.2.2.2.1 y hy
    · refine Or.inr ⟨by unfold mk; rw [if_neg (by decide), if_pos rfl, if_neg c], ?_⟩
      obtain ⟨t', e1, e2⟩ := hno
      refine ⟨t', ?_, e2⟩
      rw [← e1]
      by_cases c1 : xs.length ≤ 20
      · have c2 : 200 < (xs.map szN).sum := by omega
        unfold cf_126_106 cf_126_117 cf_126_119 cf_126_122 cf_126_127
        simp (disch := omega) only [ev_S, ↓reduceIte, Nat.reduceEqDiff, l32_0, l32_1, l32_2, l32_3, l32_20, l32_200, et]
      · unfold cf_126_106 cf_126_117 cf_126_119
        simp (disch := omega) only [ev_S, ↓reduceIte, Nat.reduceEqDiff, l32_0, l32_1, l32_2, l32_3, l32_20, l32_200, et]
  · have et : totk 3 xs = (xs.map bulkN).sum := rfl
    have ed : depk 3 xs = mxL (xs.map dN) := rfl
    have hts : (xs.map bulkN).sum ≤ 600 * xs.length := hts
    by_cases c : xs.length ≤ 20 ∧ 1 + (xs.map bulkN).sum ≤ 600 ∧ 1 + mxL (xs.map dN) ≤ 4
    · obtain ⟨c1, c2, c3⟩ := c
      refine Or.inl ⟨mkP xs, by unfold mk; rw [if_neg (by decide), if_neg (by decide), if_pos ⟨c1, c2, c3⟩], ?_⟩
      obtain ⟨t2, t', q1, q2, q3, q4, q5, q6⟩ := hyes (by omega) (fun t2 => vp_updL (vp_updL (vp_updL (cel t2) u (Int32.toInt64 (Int32.ofNat xs.length))) (u + 1) (Int32.toInt64 (Int32.ofNat (totk 3 xs + 1)))) (u + 2) (Int32.toInt64 (Int32.ofNat (depk 3 xs + 1)))) (fun t2 ht2 => by
        obtain ⟨a1, a2, a3, a4, a5, a6, a7, a8, a9⟩ := ht2
        unfold cf_126_210 cf_126_239 cf_126_244 cf_126_272
        simp (disch := omega) only [ev_S, ev_C, ↓reduceIte, Nat.reduceEqDiff, Nat.reduceLeDiff, Nat.reduceAdd, Nat.reduceMul, Nat.reduceSub, reduceCtorEq, l32_0, l32_1, l32_2, l32_3, l32_4, l32_5, l32_6, l32_7, l32_8, l32_9, l32_10, a1, jB_jB]) (fun t2 y hy => by rw [updL_n (by omega), updL_n (by omega), updL_n (by omega)])
      refine ⟨t', tg (Int32.ofNat 3) (Int32.ofNat u), ?_, q5, ?_⟩
      · rw [← q4]
        unfold cf_126_106 cf_126_117 cf_126_119 cf_126_122 cf_126_135 cf_126_140 cf_126_150
        simp (disch := omega) only [ev_S, ↓reduceIte, Nat.reduceEqDiff, l32_0, l32_1, l32_2, l32_3, l32_4, l32_20, l32_600, et, ed]
      · have hd3 : ∀ x ∈ xs, dN x ≤ 3 := fun x hx => mxL_le.mp (show mxL (xs.map dN) ≤ 3 by omega) _ (List.mem_map.mpr ⟨x, hx, rfl⟩)
        have hb : ((xs.map (cs 3)).map (bulk 3)) = xs.map bulkN := map_cs (fun x hx => cs_bulk (hd3 x hx))
        have hdd : ((xs.map (cs 3)).map (dT 3)) = xs.map dN := map_cs (fun x hx => cs_d (hd3 x hx))
        rw [q6, cN_iff]
        refine ⟨u, rfl, by rw [List.length_map]; omega, ?_, ?_, ?_, fun i hi => ?_⟩
        · unfold fil
          rw [if_neg (by omega), updL_n (by omega), updL_n (by omega), updL_s, List.length_map]
        · unfold fil
          rw [if_neg (by omega), updL_n (by omega), updL_s, hb, et, Nat.add_comm]
        · unfold fil
          rw [if_neg (by omega), updL_s, hdd, ed, Nat.add_comm]
        · rw [List.length_map] at hi
          have hx := hr i hi
          have e9 : fil t2 (vp_updL (vp_updL (vp_updL (cel t2) u (Int32.toInt64 (Int32.ofNat xs.length))) (u + 1) (Int32.toInt64 (Int32.ofNat (totk 3 xs + 1)))) (u + 2) (Int32.toInt64 (Int32.ofNat (depk 3 xs + 1)))) 3 f u xs.length 0 (u + 3 + i) = prt t (f + i) := by
            unfold fil
            rw [if_pos (by omega), show f + (u + 3 + i - (u + 3)) = f + i by omega]
            show (kB t2 44).2 _ = _
            rw [q3]
          rw [e9, List.getElem_map]
          refine cs_c (hd3 _ (List.getElem_mem hi)) (hx.mono (fun y hy => ?_) (by omega))
          rw [← q6]
          exact q5.2.2.2.1 y hy
    · refine Or.inr ⟨by unfold mk; rw [if_neg (by decide), if_neg (by decide), if_neg c], ?_⟩
      obtain ⟨t', e1, e2⟩ := hno
      refine ⟨t', ?_, e2⟩
      rw [← e1]
      by_cases c1 : xs.length ≤ 20
      · by_cases c2 : 1 + (xs.map bulkN).sum ≤ 600
        · have c3 : 4 < 1 + mxL (xs.map dN) := by omega
          unfold cf_126_106 cf_126_117 cf_126_119 cf_126_122 cf_126_135 cf_126_140 cf_126_150
          simp (disch := omega) only [ev_S, ↓reduceIte, Nat.reduceEqDiff, l32_0, l32_1, l32_2, l32_3, l32_4, l32_20, l32_600, et, ed]
        · unfold cf_126_106 cf_126_117 cf_126_119 cf_126_122 cf_126_135 cf_126_140
          simp (disch := omega) only [ev_S, ↓reduceIte, Nat.reduceEqDiff, l32_0, l32_1, l32_2, l32_3, l32_4, l32_20, l32_600, et, ed]
      · unfold cf_126_106 cf_126_117 cf_126_119
        simp (disch := omega) only [ev_S, ↓reduceIte, Nat.reduceEqDiff, l32_0, l32_1, l32_2, l32_3, l32_4, l32_20, l32_600, et, ed]
end CBF
