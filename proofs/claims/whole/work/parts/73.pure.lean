/-! ===== PURE: the class reads a shelf into its heap ===== -/
/-- what reading from Shelves σ leaves -/
def rfr (σ : Nat) (t t' : cS) : Prop := hfr t (jI t' (3000000 + σ) 2 (kI t (3000000 + σ) 2))
section RDS
variable {N : Nat} {X : Nat → Option zz_C} {t t' t1 t2 : cS} {u w σ j p : Nat} {ξ : List Int32}
theorem rfr.rf : rfr σ t t := by
  refine ⟨fun k f r => ?_, rfl, rfl, fun _ _ _ _ => ⟨rfl, rfl, rfl⟩, rfl, rfl, Nat.le_refl _, Nat.le_refl _, Nat.le_refl _⟩
  show (if k = 3000000 + σ ∧ f = 2 then _ else _) = _
  split
  · rename_i c
    rw [c.1, c.2]
  · rfl
theorem rfr.of (h : hfr t t') : rfr σ t t' := by
  obtain ⟨a1, a2, a3, a4, a5, a6, a8, a9, a10⟩ := h
  refine ⟨fun k f r => ?_, a2, a3, a4, a5, a6, a8, a9, a10⟩
  show (if k = 3000000 + σ ∧ f = 2 then _ else _) = _
  split
  · rename_i c
    rw [c.1, c.2]
  · exact a1 k f r
theorem rfr.ix {x : Int32} : rfr σ t (jI t (3000000 + σ) 2 x) := by
  refine ⟨fun k f r => ?_, rfl, rfl, fun _ _ _ _ => ⟨rfl, rfl, rfl⟩, rfl, rfl, Nat.le_refl _, Nat.le_refl _, Nat.le_refl _⟩
  show (if k = 3000000 + σ ∧ f = 2 then _ else (if k = 3000000 + σ ∧ f = 2 then _ else _)) = _
  split
  · rename_i c
    rw [c.1, c.2]
  · rfl
theorem rfr.tr (h : rfr σ t t1) (g : rfr σ t1 t2) : rfr σ t t2 := by
  obtain ⟨a1, a2, a3, a4, a5, a6, a8, a9, a10⟩ := h
  obtain ⟨b1, b2, b3, b4, b5, b6, b8, b9, b10⟩ := g
  refine ⟨fun k f r => ?_, b2.trans a2, b3.trans a3, fun k r1 r2 r3 => ⟨(b4 k r1 r2 r3).1.trans (a4 k r1 r2 r3).1, (b4 k r1 r2 r3).2.1.trans (a4 k r1 r2 r3).2.1, (b4 k r1 r2 r3).2.2.trans (a4 k r1 r2 r3).2.2⟩, b5.trans a5, b6.trans a6, Nat.le_trans a8 b8, ?_, ?_⟩
  · show (if k = 3000000 + σ ∧ f = 2 then _ else _) = _
    have e1 := a1 k f r
    have e2 := b1 k f r
    rw [kI_jI] at e1 e2
    split
    · rename_i c
      rw [c.1, c.2]
    · rename_i c
      rw [if_neg c] at e1 e2
      exact e2.trans e1
  · have e1 : kN t1 + pot t ≤ kN t + pot t1 := a9
    have e2 : kN t2 + pot t1 ≤ kN t1 + pot t2 := b9
    show kN t2 + pot t ≤ kN t + pot t2
    omega
  · have e1 : kQ t1 + poq t ≤ kQ t + poq t1 := a10
    have e2 : kQ t2 + poq t1 ≤ kQ t1 + poq t2 := b10
    show kQ t2 + poq t ≤ kQ t + poq t2
    omega
theorem hfr.s0 (h : hfr t t') (h0 : cS0 t σ) : cS0 t' σ := by
  obtain ⟨a1, a2, a3, a4, a5, a6, a8, a9, a10⟩ := h
  obtain ⟨g1, g2, g3⟩ := h0
  refine ⟨by rw [a6]; exact g1, by rw [(a4 _ (by omega) (by omega) (by omega)).1]; exact g2, fun j hj => by rw [(a4 _ (by omega) (by omega) (by omega)).1]; exact g3 j hj⟩
theorem hfr.s1 (h : hfr t t') (h0 : cS1 t σ j ξ) : cS1 t' σ j ξ := by
  obtain ⟨a1, a2, a3, a4, a5, a6, a8, a9, a10⟩ := h
  unfold cS1 at h0 ⊢
  rw [(a4 _ (by omega) (by omega) (by omega)).1, (a4 (2000000 + 20 * σ + 1 + 1 + j) (by omega) (by omega) (by omega)).1]
  exact h0
/-- numbers ξ of shelf j, read up to p -/
def cRd (t : cS) (σ j : Nat) (ξ : List Int32) (p : Nat) : Prop := cS0 t σ ∧ cS1 t σ j ξ ∧ kI t (3000000 + σ) 2 = Int32.ofNat p ∧ ξ.length ≤ 1200 ∧ j < 8
theorem cRd.keep (h : cRd t σ j ξ p) (hf : hfr t t') : cRd t' σ j ξ p := by
  obtain ⟨h1, h2, h3, h4, h5⟩ := h
  exact ⟨hf.s0 h1, hf.s1 h2, by rw [hf.1 _ _ (by omega)]; exact h3, h4, h5⟩
theorem c_next {a : Int32} {rest : List Int32} (h : cRd t σ j ξ p) (e : ξ.drop p = a :: rest) : cf_219 N X σ (Int32.ofNat j) t = some (jI t (3000000 + σ) 2 (Int32.ofNat (p + 1)), .inl (some (.int a))) ∧ cRd (jI t (3000000 + σ) 2 (Int32.ofNat (p + 1))) σ j ξ (p + 1) ∧ ξ.drop (p + 1) = rest := by
  obtain ⟨⟨g1, g2, g3⟩, ⟨h1, h2, h3⟩, h4, h5, h6⟩ := h
  have hp : p < ξ.length := by
    by_cases c : p < ξ.length
    · exact c
    · rw [List.drop_eq_nil_of_le (by omega)] at e
      cases e
  rw [List.drop_eq_getElem_cons hp] at e
  obtain ⟨e1, e2⟩ := List.cons.inj e
  have h3 := h3 p hp
  rw [e1] at h3
  refine ⟨?_, ⟨⟨g1, g2, g3⟩, ⟨h1, h2, fun i hi => by rename_i hh; exact hh i hi⟩, ?_, h5, h6⟩, e2⟩
  · repeat ((first | unfold cf_219 | unfold cf_219_0 | unfold cf_219_13 | unfold cf_219_15); try simp (disch := omega) only [ev_S, ev_C, ↓reduceIte, Nat.reduceEqDiff, Nat.reduceLeDiff, Nat.reduceAdd, Nat.reduceMul, Nat.reduceSub, reduceCtorEq, l32_0, l32_1, l32_2, l32_3, l32_4, l32_8, l32_10, l32_20, g1, g2, h1, h4, h3])
  · show (if _ ∧ _ then _ else _) = _
    exact if_pos ⟨rfl, rfl⟩
theorem cHp_ix {k : Nat} {f : Nat} {x : Int32} (hk : ¬ k = 42) (h : cHp t u w) : cHp (jI t k f x) u w := by
  obtain ⟨h1, h2, h3⟩ := h
  refine ⟨?_, ?_, h3⟩
  · show (if _ ∧ _ then _ else _) = _
    rw [if_neg (by omega)]
    exact h1
  · show (if _ ∧ _ then _ else _) = _
    rw [if_neg (by omega)]
    exact h2
/-- what is asked of a call that reads a THING x, told by the numbers sr -/
def rdP (σ j : Nat) (ξ : List Int32) (call : cS → kO) (x : Nod) (sr : List Int32) (W : Nat) : Prop := ∀ (t : cS) (u w p : Nat) (rest : List Int32), cRd t σ j ξ p → cHp t u w → ξ.drop p = sr ++ rest → w ≤ W → u + 4 * bulkN x ≤ 162000 → ∃ t' v u', call t = some (t', .inl (some (.long v))) ∧ cN (cel t') u' v x ∧ cHp t' u' w ∧ rfr σ t t' ∧ cRd t' σ j ξ (p + sr.length) ∧ ξ.drop (p + sr.length) = rest ∧ u ≤ u' ∧ u' + 1 ≤ u + 4 * bulkN x ∧ (∀ y, y < u → cel t' y = cel t y) ∧ (∀ y, y < w → prt t' y = prt t y)
/-- the INTS of a ROW, one after the other -/
theorem c_rowL {r : List Int32} {f : Nat} (hr : r.length ≤ 64) (hf : f ≤ 60000) : ∀ (d i q : Nat) (t : cS) (p : Nat) (rest : List Int32), i + d = r.length → cRd t σ j ξ p → cHp t u (f + i) → ξ.drop p = r.drop i ++ rest → (∀ m (hm : m < r.length), m < i → prt t (f + m) = tg 0 r[m]) → ∃ t', cf_218_L2 N X (q + (d + 1)) 0 σ (Int32.ofNat j) (Int32.ofNat f) (Int32.ofNat r.length) (Int32.ofNat i) t = cf_218_41 N X (Int32.ofNat f) t' ∧ cRd t' σ j ξ (p + d) ∧ ξ.drop (p + d) = rest ∧ cHp t' u (f + r.length) ∧ (∀ m (hm : m < r.length), prt t' (f + m) = tg 0 r[m]) ∧ rfr σ t t' ∧ kB t' 43 = kB t 43 ∧ (∀ y, y < f → prt t' y = prt t y) := by
  intro d
  induction d with
  | zero =>
    intro i q t p rest hi h1 h2 h3 h4
    have hi : i = r.length := hi
    subst hi
    rw [List.drop_length] at h3
    refine ⟨t, ?_, h1, h3, h2, fun m hm => h4 m hm hm, rfr.rf, rfl, fun _ _ => rfl⟩
    show cf_218_15 N X (cf_218_L2 N X q) σ (Int32.ofNat j) (Int32.ofNat f) (Int32.ofNat r.length) (Int32.ofNat r.length) t = _
    unfold cf_218_15
    simp (disch := omega) only [ev_S, ev_C, ↓reduceIte, Nat.reduceEqDiff, Nat.reduceLeDiff, Nat.reduceAdd, Nat.reduceMul, Nat.reduceSub, reduceCtorEq, l32_0, l32_1, l32_2, l32_3, l32_4, l32_5, l32_6, l32_7, l32_8, l32_9, l32_10, h2]
  | succ d ih =>
    intro i q t p rest hi h1 h2 h3 h4
    have hi1 : i < r.length := by omega
    rw [List.drop_eq_getElem_cons hi1] at h3
    obtain ⟨n1, n2, n3⟩ := c_next (N := N) (X := X) h1 h3
    obtain ⟨t2, b1, b2, b3, b4, b5, b6⟩ := c_put1 (N := N) (X := X) (v := tg 0 r[i]) (cHp_ix (k := 3000000 + σ) (f := 2) (x := Int32.ofNat (p + 1)) (by omega) h2) (by omega)
    have g1 := h1.1.1
    have b1' : cf_123 N X (tg (Int32.ofNat 0) r[i]) (jI t (3000000 + σ) 2 (Int32.ofNat (p + 1))) = some (t2, .inl none) := b1
    obtain ⟨t', k1, k2, k3, k4, k5, k6, k7, k8⟩ := ih (i + 1) q t2 (p + 1) rest (by omega) (n2.keep b3) b2 n3 (fun m hm hmi => by
      by_cases c : m = i
      · subst c
        exact b5
      · rw [b6 _ (by omega)]
        exact h4 m hm (by omega))
    refine ⟨t', ?_, by rw [show p + (d + 1) = p + 1 + d by omega]; exact k2, by rw [show p + (d + 1) = p + 1 + d by omega]; exact k3, k4, k5, rfr.tr (rfr.tr rfr.ix (rfr.of b3)) k6, k7.trans b4, fun y hy => (k8 y hy).trans (b6 y (by omega))⟩
    rw [← k1]
    show cf_218_15 N X (cf_218_L2 N X (q + (d + 1))) σ (Int32.ofNat j) (Int32.ofNat f) (Int32.ofNat r.length) (Int32.ofNat i) t = _
    repeat ((first | unfold cf_218 | unfold cf_218_0 | unfold cf_218_4 | unfold cf_218_10 | unfold cf_218_15 | unfold cf_218_22 | unfold cf_218_29 | unfold cf_218_32 | unfold cf_218_35 | unfold cf_218_41 | unfold cf_218_47); try simp (disch := omega) only [ev_S, ev_C, ↓reduceIte, Nat.reduceEqDiff, Nat.reduceLeDiff, Nat.reduceAdd, Nat.reduceMul, Nat.reduceSub, reduceCtorEq, l32_0, l32_1, l32_2, l32_3, l32_4, l32_7, g1, n1, c_thing, b1'])
theorem c_readRow {r : List Int32} (hN : 170000 ≤ N) (hr : r.length ≤ 64) : rdP σ j ξ (cf_218 N X σ (Int32.ofNat j)) (nR r) (serRow r) 60000 := by
  intro t u w p rest h1 h2 h3 hw hu
  have hu : u + 4 * (1 + r.length) ≤ 162000 := hu
  have g0 := c_gathered (N := N) (X := X) h2
  have g1 := h1.1.1
  obtain ⟨n1, n2, n3⟩ := c_next (N := N) (X := X) h1 h3
  obtain ⟨t1, a1, a2, a3, a4, a5, a6, a7, a8⟩ := c_rowL (N := N) (X := X) (r := r) (f := w) (σ := σ) (j := j) (ξ := ξ) (u := u) hr hw r.length 0 (N - (r.length + 1)) _ (p + 1) rest (Nat.zero_add _) n2 (cHp_ix (k := 3000000 + σ) (f := 2) (x := Int32.ofNat (p + 1)) (by omega) h2) n3 (fun m _ hm => by omega)
  rw [show N - (r.length + 1) + (r.length + 1) = N by omega] at a1
  have e1 : cf_218 N X σ (Int32.ofNat j) t = cf_218_41 N X (Int32.ofNat w) t1 := by
    rw [← a1]
    repeat ((first | unfold cf_218 | unfold cf_218_0 | unfold cf_218_4 | unfold cf_218_10 | unfold cf_218_15 | unfold cf_218_22 | unfold cf_218_29 | unfold cf_218_32 | unfold cf_218_35 | unfold cf_218_41 | unfold cf_218_47); try simp (disch := omega) only [ev_S, ev_C, ↓reduceIte, Nat.reduceEqDiff, Nat.reduceLeDiff, Nat.reduceAdd, Nat.reduceMul, Nat.reduceSub, reduceCtorEq, l32_0, l32_1, l32_2, l32_3, l32_4, l32_7, g0, g1, n1])
  have hl : (r.map nZ).length = r.length := List.length_map _
  have hb := c_build (N := N) (X := X) (k := 1) (xs := r.map nZ) (t := t1) (u := u) (f := w) hN (Or.inl ⟨rfl, fun x hx => by
    obtain ⟨z, -, rfl⟩ := List.mem_map.mp hx
    rfl⟩) (by rw [hl]; exact a4) (fun i hi => by
      rw [hl] at hi
      rw [a5 i hi, List.getElem_map]
      rfl) (fun x hx => by
    obtain ⟨z, -, rfl⟩ := List.mem_map.mp hx
    exact trivial) (fun x hx => by
    obtain ⟨z, -, rfl⟩ := List.mem_map.mp hx
    exact Nat.zero_le _) (by omega) (by omega) (by omega)
  rcases hb with ⟨y, m1, t', v, c1, c2, c3⟩ | ⟨m1, -⟩
  · obtain ⟨d1, d2, d3, d4, d5⟩ := c2
    have em : mk 1 (r.map nZ) = some (mkR (r.map nZ)) := by
      unfold mk
      rw [if_pos rfl, if_pos (by rw [hl]; exact hr)]
    rw [em] at m1
    cases m1
    refine ⟨t', v, u + 1 + (r.map nZ).length, ?_, ?_, d1, rfr.tr (rfr.tr rfr.ix a6) (rfr.of d2), ?_, ?_, by omega, ?_, fun y hy => (d4 y hy).trans ?_, fun y hy => (d5 y hy).trans (a8 y hy)⟩
    · rw [e1]
      repeat ((first | unfold cf_218_41 | unfold cf_218_47); try simp (disch := omega) only [ev_S, ev_C, ↓reduceIte, Nat.reduceEqDiff, Nat.reduceLeDiff, Nat.reduceAdd, Nat.reduceMul, Nat.reduceSub, reduceCtorEq, l32_0, l32_1, l32_2, l32_3, l32_4, c1])
    · refine (cN_vw ?_).mp c3
      show vR ((r.map nZ).map ivN) = vR r
      rw [map_iv]
    · rw [show p + (serRow r).length = p + 1 + r.length by show p + (r.length + 1) = _; omega]
      exact a2.keep d2
    · rw [show p + (serRow r).length = p + 1 + r.length by show p + (r.length + 1) = _; omega]
      exact a3
    · show u + 1 + (r.map nZ).length + 1 ≤ u + 4 * (1 + r.length)
      omega
    · show (kB t1 43).2 y = _
      rw [a7]
      rfl
  · unfold mk at m1
    rw [if_pos rfl, if_pos (by rw [hl]; exact hr)] at m1
    cases m1
end RDS
