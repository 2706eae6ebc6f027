/-! ===== PURE: run (151): a THING as one of depth 4; a THING is laid on a shelf (the class) ===== -/
/-- one deeper -/
def lf1 : (n : Nat) → Th n → Th (n + 1)
  | 0, p => (.inl p : Pl ⊕ List (Th 0))
  | n + 1, x => match (show Pl ⊕ List (Th n) from x) with
    | .inl p => (.inl p : Pl ⊕ List (Th (n + 1)))
    | .inr l => (.inr (l.map (lf1 n)) : Pl ⊕ List (Th (n + 1)))
theorem map_eq_of {α β : Type} {f g : α → β} : ∀ {l : List α}, (∀ x ∈ l, f x = g x) → l.map f = l.map g
  | [], _ => rfl
  | a :: l, h => by rw [List.map_cons, List.map_cons, h a List.mem_cons_self, map_eq_of (fun x hx => h x (List.mem_cons_of_mem _ hx))]
theorem lf1_ser : ∀ (n : Nat) (x : Th n), ser (n + 1) (lf1 n x) = ser n x
  | 0, _ => rfl
  | n + 1, x => by
    obtain p | l := (x : Pl ⊕ List (Th n))
    · rfl
    · show 3 :: Int32.ofNat (l.map (lf1 n)).length :: (l.map (lf1 n)).flatMap (ser (n + 1)) = 3 :: Int32.ofNat l.length :: l.flatMap (ser n)
      rw [List.length_map]
      have : ∀ l : List (Th n), (l.map (lf1 n)).flatMap (ser (n + 1)) = l.flatMap (ser n) := by
        intro l
        induction l with
        | nil => rfl
        | cons a l ih => rw [List.map_cons, List.flatMap_cons, List.flatMap_cons, ih, lf1_ser n a]
      rw [this]
theorem lf1_bulk : ∀ (n : Nat) (x : Th n), bulk (n + 1) (lf1 n x) = bulk n x
  | 0, _ => rfl
  | n + 1, x => by
    obtain p | l := (x : Pl ⊕ List (Th n))
    · rfl
    · show 1 + ((l.map (lf1 n)).map (bulk (n + 1))).sum = 1 + (l.map (bulk n)).sum
      rw [List.map_map]
      congr 2
      exact map_eq_of (fun y _ => lf1_bulk n y)
theorem lf1_int : ∀ (n : Nat) (x : Th n), intT (n + 1) (lf1 n x) = intT n x
  | 0, _ => rfl
  | n + 1, x => by
    obtain p | l := (x : Pl ⊕ List (Th n))
    · rfl
    · rfl
theorem lf1_wf : ∀ (n : Nat) (x : Th n), wfT n x → wfT (n + 1) (lf1 n x)
  | 0, _, h => h
  | n + 1, x, h => by
    obtain p | l := (x : Pl ⊕ List (Th n))
    · exact h
    · have h : l.length ≤ 20 ∧ 1 + (l.map (bulk n)).sum ≤ 600 ∧ ∀ y ∈ l, wfT n y := h
      show (l.map (lf1 n)).length ≤ 20 ∧ 1 + ((l.map (lf1 n)).map (bulk (n + 1))).sum ≤ 600 ∧ ∀ y ∈ l.map (lf1 n), wfT (n + 1) y
      refine ⟨by rw [List.length_map]; exact h.1, ?_, fun y hy => ?_⟩
      · rw [List.map_map]
        have e : l.map (bulk (n + 1) ∘ lf1 n) = l.map (bulk n) := map_eq_of (fun y _ => lf1_bulk n y)
        rw [e]
        exact h.2.1
      · obtain ⟨z, hz, e⟩ := List.mem_map.mp hy
        rw [← e]
        exact lf1_wf n z (h.2.2 z hz)
theorem lf1_lay {h : Nat → Int32} {R : Nat → Prop} : ∀ (n : Nat) (x : Th n) (a : Nat), Lay n h R a x → Lay (n + 1) h R a (lf1 n x)
  | 0, _, _, H => H
  | n + 1, x, a, H => by
    obtain p | l := (x : Pl ⊕ List (Th n))
    · exact H
    · have H : (∀ y, a ≤ y → y < a + 2 + 2 * l.length → R y) ∧ h a = 3 ∧ h (a + 1) = Int32.ofNat l.length ∧ ∀ i (hi : i < l.length), (∀ z, intT n l[i] = some z → h (a + 2 + 2 * i) = 0 ∧ h (a + 3 + 2 * i) = z) ∧ (intT n l[i] = none → h (a + 2 + 2 * i) = 1 ∧ ∃ b : Nat, Int32.ofNat a + h (a + 3 + 2 * i) = Int32.ofNat b ∧ Lay n h R b l[i]) := H
      show (∀ y, a ≤ y → y < a + 2 + 2 * (l.map (lf1 n)).length → R y) ∧ h a = 3 ∧ h (a + 1) = Int32.ofNat (l.map (lf1 n)).length ∧ ∀ i (hi : i < (l.map (lf1 n)).length), (∀ z, intT (n + 1) (l.map (lf1 n))[i] = some z → h (a + 2 + 2 * i) = 0 ∧ h (a + 3 + 2 * i) = z) ∧ (intT (n + 1) (l.map (lf1 n))[i] = none → h (a + 2 + 2 * i) = 1 ∧ ∃ b : Nat, Int32.ofNat a + h (a + 3 + 2 * i) = Int32.ofNat b ∧ Lay (n + 1) h R b (l.map (lf1 n))[i])
      obtain ⟨h1, h2, h3, h4⟩ := H
      refine ⟨by rw [List.length_map]; exact h1, h2, by rw [List.length_map]; exact h3, fun i hi => ?_⟩
      have hi' : i < l.length := by rw [List.length_map] at hi; exact hi
      rw [List.getElem_map, lf1_int]
      obtain ⟨q1, q2⟩ := h4 i hi'
      refine ⟨q1, fun e => ?_⟩
      obtain ⟨r1, b, r2, r3⟩ := q2 e
      exact ⟨r1, b, r2, lf1_lay n l[i] b r3⟩
theorem lf4 : ∀ (d n : Nat) (x : Th n), n + d = 4 → wfT n x → ∃ y : Th 4, ser 4 y = ser n x ∧ wfT 4 y ∧ intT 4 y = intT n x ∧ ∀ h R a, Lay n h R a x → Lay 4 h R a y
  | 0, n, x, e, hw => by
    have e : n = 4 := e
    subst e
    exact ⟨x, rfl, hw, rfl, fun _ _ _ H => H⟩
  | d + 1, n, x, e, hw => by
    obtain ⟨y, e1, e2, e3, e4⟩ := lf4 d (n + 1) (lf1 n x) (by omega) (lf1_wf n x hw)
    exact ⟨y, e1.trans (lf1_ser n x), e2, e3.trans (lf1_int n x), fun h R a H => e4 h R a (lf1_lay n x a H)⟩
section WRT
variable {N : Nat} {X : Nat → Option zz_C} {t t' t1 t2 : cS} {u w σ j B : Nat} {ξ ζ : List Int32} {v : Int64} {x : Nod}
abbrev rwK (t : cS) (σ j : Nat) : Nat := (kA t (2000000 + 20 * σ + 1 + 1 + j)).1
/-- the room that writing takes -/
def rWK (σ j : Nat) (t t' : cS) : Prop := kN t' + rwK t σ j ≤ kN t + rwK t' σ j ∧ kQ t' + 2 * rwK t σ j ≤ kQ t + 2 * rwK t' σ j ∧ rwK t σ j ≤ rwK t' σ j
theorem rWK.rf : rWK σ j t t := ⟨Nat.le_refl _, Nat.le_refl _, Nat.le_refl _⟩
theorem rWK.tr (h : rWK σ j t t1) (g : rWK σ j t1 t2) : rWK σ j t t2 := by
  obtain ⟨h1, h2, h3⟩ := h
  obtain ⟨g1, g2, g3⟩ := g
  exact ⟨by omega, by omega, by omega⟩
/-- ξ was written on shelf j; the heap stands -/
def Wst (B σ j : Nat) (t : cS) (ξ : List Int32) (u w : Nat) : Prop := cS0 t σ ∧ cS1 t σ j ξ ∧ kN t ≤ B + rwK t σ j ∧ cHp t u w ∧ B + 3300 < zz_out ∧ j < 8
/-- what is left alone -/
def wfr (σ j : Nat) (t t' : cS) : Prop := fSh σ j t t' ∧ rWK σ j t t'
theorem wfr.rf : wfr σ j t t := ⟨fSh.rf, rWK.rf⟩
theorem wfr.tr (h : wfr σ j t t1) (g : wfr σ j t1 t2) : wfr σ j t t2 := ⟨h.1.tr g.1, h.2.tr g.2⟩
theorem wfr.ce (h : wfr σ j t t') : cel t' = cel t := by
  have := h.1.1.2.2.2.2.1 43 (by show ¬ 43 = 2000000 + 20 * σ + 1 + 1 + j; omega) (by decide)
  unfold cel
  rw [this]
theorem wfr.hp (h : wfr σ j t t') (hh : cHp t u w) (hk : kN t' + 200 < zz_out) : cHp t' u w := by
  obtain ⟨⟨⟨k1, k2, k3, k4, k5, k6, k7, k8⟩, -, -⟩, -⟩ := h
  obtain ⟨h1, h2, h3, h4, h5, h6, h7, h8, h9⟩ := hh
  have e43 := k5 43 (by show ¬ 43 = 2000000 + 20 * σ + 1 + 1 + j; omega) (by decide)
  have e44 := k5 44 (by show ¬ 44 = 2000000 + 20 * σ + 1 + 1 + j; omega) (by decide)
  have e46 := k4 46 (by show ¬ (46 = 2000000 + 20 * σ + 1 + 1 + j ∨ 46 = 2000000 + 20 * σ + 10); omega) (by decide)
  refine ⟨by rw [k1 42 1 (fun q => q)]; exact h1, by rw [k1 42 3 (fun q => q)]; exact h2, ?_, ?_, ?_, ?_, ?_, ?_, ?_, ?_⟩
  · rw [e43]; exact h3
  · rw [e44]; exact h4
  · rw [e44]; exact h5
  · rw [e43]; exact h6
  · rw [e43]; exact h7
  · rw [e44]; exact h8
  · omega
  · rw [e46]; exact h9.2
/-- a number is written -/
theorem Wst.put (h : Wst B σ j t ξ u w) (hl : ξ.length ≤ 1400) (x : Int32) : ∃ t', cf_25 N X σ (Int32.ofNat j) x t = some (t', .inl none) ∧ Wst B σ j t' (ξ ++ [x]) u w ∧ wfr σ j t t' := by
  obtain ⟨h0, h1, hk, hh, hB, hj⟩ := h
  have hrl : rwK t σ j ≤ 3000 := h0.2.2 j hj
  have key : ∃ t', cf_25 N X σ (Int32.ofNat j) x t = some (t', .inl none) ∧ cS0 t' σ ∧ cS1 t' σ j (ξ ++ [x]) ∧ fSh σ j t t' ∧ rWK σ j t t' := by
    by_cases c : ξ.length < rwK t σ j
    · obtain ⟨t', q1, q2, q3, q4, q5, q6⟩ := c_put38 (N := N) (X := X) h0 hj h1 c x
      refine ⟨t', ?_, q2, q3, q4, ?_⟩
      · rw [← q1]
        obtain ⟨g1, g2, g3⟩ := h0
        unfold cf_25 cf_25_0
        rw [if_pos g1, i32c (m := j) (by omega), if_pos (fun q => q.elim (i32n (by omega)) (by omega)), if_pos (fun q => q.elim (i32n (by omega)) (by omega)), h1.1, if_pos ((i32lt (by omega) (by omega)).mpr c)]
      · obtain ⟨p1, p2, p3⟩ := q5
        exact ⟨by unfold rwK; omega, by unfold rwK; omega, by unfold rwK; omega⟩
    · obtain ⟨t', q1, q2, q3, q4, q5⟩ := c_put (N := N) (X := X) h0 hj h1 hl (by omega) x
      obtain ⟨p1, p2, p3⟩ := q5
      have := q3.2.1
      rw [List.length_append, List.length_singleton] at this
      exact ⟨t', q1, q2, q3, q4, by unfold rwK at *; omega, p2, p3⟩
  obtain ⟨t', q1, q2, q3, q4, q5⟩ := key
  have hw : wfr σ j t t' := ⟨q4, q5⟩
  have hk' : kN t' ≤ B + rwK t' σ j := by
    have := q5.1
    omega
  have hrl' : rwK t' σ j ≤ 3000 := q2.2.2 j hj
  exact ⟨t', q1, ⟨q2, q3, hk', hw.hp hh (by omega), hB, hj⟩, hw⟩
/-- what is asked of a call that writes x, told by the numbers sr -/
def wrP (B σ j u w : Nat) (call : Int64 → cS → kO) (x : Nod) (sr : List Int32) : Prop := ∀ (t : cS) (v : Int64) (ξ : List Int32), Wst B σ j t ξ u w → cN (cel t) u v x → ξ.length + sr.length ≤ 1300 → ∃ t', call v t = some (t', .inl none) ∧ Wst B σ j t' (ξ ++ sr) u w ∧ wfr σ j t t'
theorem c_wrRow {r : List Int32} (hN : 170000 ≤ N) (hr : r.length ≤ 64) : wrP B σ j u w (fun v => cf_221 N X σ (Int32.ofNat j) v) (nR r) (serRow r) := by
  intro t v ξ H hx hl
  have hl : ξ.length + (r.length + 1) ≤ 1300 := hl
  have hsz : cf_128 N X v t = some (t, .inl (some (.int (Int32.ofNat r.length)))) := c_sizeN (N := N) (X := X) H.2.2.2.1 hx
  obtain ⟨t1, a1, a2, a3⟩ := H.put (N := N) (X := X) (by omega) (Int32.ofNat r.length)
  have hx1 : cN (cel t1) u v (nR r) := by rw [a3.ce]; exact hx
  have key : ∀ (d i q : Nat) (t2 : cS), i + d = r.length → Wst B σ j t2 (ξ ++ [Int32.ofNat r.length] ++ r.take i) u w → wfr σ j t1 t2 → ∃ t', cf_221_L1 N X (q + (d + 1)) 0 σ (Int32.ofNat j) v (Int32.ofNat r.length) (Int32.ofNat i) t2 = some (t', .inl none) ∧ Wst B σ j t' (ξ ++ [Int32.ofNat r.length] ++ r) u w ∧ wfr σ j t1 t' := by
    intro d
    induction d with
    | zero =>
      intro i q t2 hi W2 f2
      have hi : i = r.length := hi
      subst hi
      rw [List.take_length] at W2
      refine ⟨t2, ?_, W2, f2⟩
      show cf_221_17 N X (cf_221_L1 N X q) σ (Int32.ofNat j) v (Int32.ofNat r.length) (Int32.ofNat r.length) t2 = _
      unfold cf_221_17 cf_221_42
      simp (disch := omega) only [ev_S, ev_C, ↓reduceIte, Nat.reduceEqDiff, Nat.reduceLeDiff, Nat.reduceAdd, Nat.reduceMul, Nat.reduceSub, reduceCtorEq, l32_0, l32_1, l32_2, l32_3, l32_4, l32_5, l32_6, l32_7, l32_8, l32_9, l32_10, l32_11, l32_12, l32_13, l32_14, l32_15, l32_16, l32_17, l32_18, l32_19, l32_20, l32_21, l32_22, l32_23, l32_24, l32_25, l32_26, l32_27, l32_28, l32_29, l32_33, l32_40, l32_41, l32_44, l32_45, l32_59, l32_61, l32_91, l32_93, l32_123, l32_125]
    | succ d ih =>
      intro i q t2 hi W2 f2
      have hi1 : i < r.length := by omega
      have hx2 : cV (cel t2) u v (vR r) := by
        have : cN (cel t2) u v (nR r) := by rw [f2.ce]; exact hx1
        exact this
      have hat := c_intAt (N := N) (X := X) W2.2.2.2.1 hx2 hi1
      obtain ⟨t3, b1, b2, b3⟩ := W2.put (N := N) (X := X) (by rw [List.length_append, List.length_append, List.length_singleton, List.length_take]; omega) r[i]
      rw [List.append_assoc _ (r.take i), List.take_append_getElem hi1] at b2
      obtain ⟨t', c1, c2, c3⟩ := ih (i + 1) q t3 (by omega) b2 (f2.tr b3)
      refine ⟨t', ?_, c2, c3⟩
      rw [← c1]
      show cf_221_17 N X (cf_221_L1 N X (q + (d + 1))) σ (Int32.ofNat j) v (Int32.ofNat r.length) (Int32.ofNat i) t2 = _
      have n1 : ¬ r.length ≤ i := by omega
      have kh := W2.1.1
      clear b2 c2 c3 W2 H a2 c1 ih
      generalize r[i] = ri at *
      generalize r.length = rl at *
      unfold cf_221_17 cf_221_24 cf_221_33 cf_221_36
      simp (disch := omega) only [ev_S, ev_C, ↓reduceIte, Nat.reduceEqDiff, Nat.reduceLeDiff, Nat.reduceAdd, Nat.reduceMul, Nat.reduceSub, reduceCtorEq, l32_0, l32_1, l32_2, l32_3, l32_4, l32_5, l32_6, l32_7, l32_8, l32_9, l32_10, l32_11, l32_12, l32_13, l32_14, l32_15, l32_16, l32_17, l32_18, l32_19, l32_20, l32_21, l32_22, l32_23, l32_24, l32_25, l32_26, l32_27, l32_28, l32_29, l32_33, l32_40, l32_41, l32_44, l32_45, l32_59, l32_61, l32_91, l32_93, l32_123, l32_125, n1, hat, kh, b1]
  obtain ⟨t', c1, c2, c3⟩ := key r.length 0 (N - (r.length + 1)) t1 (Nat.zero_add _) (by rw [List.take_zero, List.append_nil]; exact a2) wfr.rf
  refine ⟨t', ?_, ?_, a3.tr c3⟩
  · rw [Nat.sub_add_cancel (by omega)] at c1
    have kh := H.1.1
    clear c2 c3 a2 key H hx1
    generalize r.length = rl at *
    show cf_221 N X σ (Int32.ofNat j) v t = _
    unfold cf_221 cf_221_0 cf_221_5 cf_221_14
    simp (disch := omega) only [ev_S, ev_C, ↓reduceIte, Nat.reduceEqDiff, Nat.reduceLeDiff, Nat.reduceAdd, Nat.reduceMul, Nat.reduceSub, reduceCtorEq, l32_0, l32_1, l32_2, l32_3, l32_4, l32_5, l32_6, l32_7, l32_8, l32_9, l32_10, l32_11, l32_12, l32_13, l32_14, l32_15, l32_16, l32_17, l32_18, l32_19, l32_20, l32_21, l32_22, l32_23, l32_24, l32_25, l32_26, l32_27, l32_28, l32_29, l32_33, l32_40, l32_41, l32_44, l32_45, l32_59, l32_61, l32_91, l32_93, l32_123, l32_125, hsz, kh, a1, c1]
  · rw [List.append_assoc] at c2
    exact c2
end WRT
