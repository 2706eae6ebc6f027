/-! ===== PURE: add ===== -/
theorem gd {x : Int32} {m K : Nat} (hx : x = Int32.ofNat m) (hm : m < K) (hK : K ≤ 2147483648) : ¬ (x < 0 ∨ K ≤ Int32.toNatClampNeg x) := by
  rw [hx, i32c (by omega)]
  exact fun q => q.elim (i32n (by omega)) (by omega)
theorem cl {x : Int32} {m : Nat} (hx : x = Int32.ofNat m) (hm : m < 2147483648) : Int32.toNatClampNeg x = m := by
  rw [hx, i32c hm]
theorem i32al {a n : Nat} : Int32.ofNat a + (OfNat.ofNat n : Int32) = Int32.ofNat (a + n) := i32add
theorem i32ml {a n : Nat} : (OfNat.ofNat n : Int32) * Int32.ofNat a = Int32.ofNat (n * a) := i32mul
section PA
variable {N : Nat} {X : Nat → Option zz_C} {t t' : cS} {s s' : mS} {σ σ0 k j : Nat} {μ : Nat → Nat} {S : Nat → Option (Th 4)} {r : List Int32}
/-- one number of shelf j is changed -/
theorem c_poke {ξ ξ' : List Int32} (h0 : cS0 t σ) (h : cS1 t σ j ξ) (hl : ξ'.length = ξ.length) {p : Nat} (hp : p < ξ.length) {v : Int32} (hv : ξ'[p]'(hl ▸ hp) = v) (ho : ∀ i (hi : i < ξ.length), i ≠ p → ξ'[i]'(hl ▸ hi) = ξ[i]) (hj : j < 8) : cS0 (jA t (2000000 + 20 * σ + 1 + 1 + j) (upd (kA t (2000000 + 20 * σ + 1 + 1 + j)).2 p v)) σ ∧ cS1 (jA t (2000000 + 20 * σ + 1 + 1 + j) (upd (kA t (2000000 + 20 * σ + 1 + 1 + j)).2 p v)) σ j ξ' ∧ fSh σ j t (jA t (2000000 + 20 * σ + 1 + 1 + j) (upd (kA t (2000000 + 20 * σ + 1 + 1 + j)).2 p v)) ∧ rSh σ j 0 t (jA t (2000000 + 20 * σ + 1 + 1 + j) (upd (kA t (2000000 + 20 * σ + 1 + 1 + j)).2 p v)) := by
  obtain ⟨g1, g2, g3⟩ := h0
  obtain ⟨h1, h2, h3⟩ := h
  have eL : kA (jA t (2000000 + 20 * σ + 1 + 1 + j) (upd (kA t (2000000 + 20 * σ + 1 + 1 + j)).2 p v)) (2000000 + 20 * σ + 10) = kA t (2000000 + 20 * σ + 10) := by rw [kA_jA, if_neg (by omega)]
  have eR : kA (jA t (2000000 + 20 * σ + 1 + 1 + j) (upd (kA t (2000000 + 20 * σ + 1 + 1 + j)).2 p v)) (2000000 + 20 * σ + 1 + 1 + j) = ((kA t (2000000 + 20 * σ + 1 + 1 + j)).1, upd (kA t (2000000 + 20 * σ + 1 + 1 + j)).2 p v) := by rw [kA_jA, if_pos rfl]
  refine ⟨⟨g1, by rw [eL]; exact g2, fun i hi => ?_⟩, ⟨by rw [eL, hl]; exact h1, by rw [eR, hl]; exact h2, fun i hi => ?_⟩, ⟨⟨fun _ _ _ => rfl, rfl, rfl, fun k q r => by rw [kA_jA, if_neg (fun z => q (Or.inl z))], fun _ _ _ => rfl, rfl, rfl, Nat.le_refl _⟩, fun i hi => by rw [eL], by rw [eL]⟩, ⟨Nat.le_refl _, by rw [eR]; exact Nat.le_refl _, by rw [eR]; exact Nat.le_refl _⟩⟩
  · rw [kA_jA]
    by_cases e : i = j
    · subst e
      rw [if_pos rfl]
      exact g3 i hi
    · rw [if_neg (by omega)]
      exact g3 i hi
  · rw [eR]
    show upd _ p v i = _
    unfold upd
    by_cases e : i = p
    · subst e
      rw [if_pos rfl]
      exact hv.symm
    · rw [if_neg e, h3 i (hl ▸ hi)]
      exact (ho i (hl ▸ hi) e).symm
theorem c_app (h0 : cS0 t σ) (hj : j < 8) (hr : r.length ≤ 64) (h : cS1 t σ j (1 :: Int32.ofNat r.length :: r)) (hN : kN t + 1 < zz_out) (v : Int32) : (r.length < 64 ∧ ∃ t', cf_26_28 N X σ (Int32.ofNat j) v t = some (t', .inl (some (.int 1))) ∧ cS0 t' σ ∧ cS1 t' σ j (1 :: Int32.ofNat (r ++ [v]).length :: (r ++ [v])) ∧ fSh σ j t t' ∧ rSh σ j 1 t t') ∨ (r.length = 64 ∧ cf_26_28 N X σ (Int32.ofNat j) v t = some (t, .inl (some (.int 0)))) := by
  have h0' := h0
  have h' := h
  obtain ⟨g1, g2, g3⟩ := h0'
  obtain ⟨h1, h2, h3⟩ := h'
  have e1 : Int32.toNatClampNeg (1 : Int32) = 1 := rfl
  have h2 : r.length + 2 ≤ (kA t (2000000 + 20 * σ + 1 + 1 + j)).1 := h2
  have hx : (kA t (2000000 + 20 * σ + 1 + 1 + j)).2 1 = Int32.ofNat r.length := h3 1 (by show 1 < r.length + 2; omega)
  have ej : ¬ (Int32.ofNat j < 0 ∨ 8 ≤ j) := fun q => q.elim (i32n (by omega)) (by omega)
  have e2 : ¬ ((1 : Int32) < 0 ∨ (kA t (2000000 + 20 * σ + 1 + 1 + j)).1 ≤ 1) := fun q => q.elim (by decide) (by omega)
  unfold cf_26_28
  rw [if_pos g1, i32c (m := j) (by omega), if_pos ej, e1, if_pos e2, hx]
  by_cases c : r.length < 64
  · refine Or.inl ⟨c, ?_⟩
    rw [if_pos (show Int32.ofNat r.length < 64 from (i32lt (by omega) (b := 64) (by decide)).mpr c)]
    unfold cf_26_43
    rw [if_pos g1, i32c (m := j) (by omega), if_pos ej, e1, if_pos e2, hx]
    obtain ⟨a1, a2, a3, a4⟩ := c_poke (ξ' := 1 :: (Int32.ofNat r.length + 1) :: r) h0 h rfl (p := 1) (v := Int32.ofNat r.length + 1) (by show 1 < r.length + 2; omega) rfl (fun i hi hn => by
      match i, hn with
      | 0, _ => rfl
      | 1, hn => exact absurd rfl hn
      | i + 2, _ => rfl) hj
    obtain ⟨t', b1, b2, b3, b4, b5⟩ := c_put (N := N) (X := X) a1 hj a2 (by show r.length + 2 ≤ 1400; omega) hN v
    rw [b1]
    refine ⟨t', rfl, b2, ?_, a3.tr b4, ?_⟩
    · have e3 : (1 : Int32) :: Int32.ofNat (r ++ [v]).length :: (r ++ [v]) = (1 :: (Int32.ofNat r.length + 1) :: r) ++ [v] := by
        rw [List.length_append, show Int32.ofNat r.length + 1 = Int32.ofNat (r.length + 1) from i32add (b := 1)]
        rfl
      rw [e3]
      exact b3
    · have := a4.tr b5
      exact ⟨this.1, this.2⟩
  · refine Or.inr ⟨by omega, ?_⟩
    rw [if_neg (show ¬ Int32.ofNat r.length < 64 from fun q => c ((i32lt (by omega) (b := 64) (by decide)).mp q))]
    rfl
theorem r_app {a : Nat} (ha : a + 100 < 166300) (H : LayR (s.2.2.1 47) (Rk j) a r) (hr : r.length ≤ 64) (v : Int32) : (r.length < 64 ∧ mf_76_41 N v (Int32.ofNat a) s = some (mA (mA s 47 (upd (s.2.2.1 47) (a + 2 + r.length) v)) 47 (upd (upd (s.2.2.1 47) (a + 2 + r.length) v) (a + 1) (Int32.ofNat (r.length + 1))), some (.int 1))) ∨ (r.length = 64 ∧ mf_76_41 N v (Int32.ofNat a) s = some (s, some (.int 0))) := by
  obtain ⟨h1, h2, h3, h4⟩ := H
  have e1 : Int32.ofNat a + 1 = Int32.ofNat (a + 1) := i32al
  have hs : mf_77 N (Int32.ofNat a) s = some (s, some (.int (Int32.ofNat r.length))) := by
    unfold mf_77 mf_77_0
    rw [if_pos (gd e1 (by omega) (by decide)), cl e1 (by omega), h3]
  unfold mf_76_41
  rw [hs]
  show (_ ∧ mf_76_46 N v (Int32.ofNat a) (Int32.ofNat r.length) s = _) ∨ (_ ∧ mf_76_46 N v (Int32.ofNat a) (Int32.ofNat r.length) s = _)
  unfold mf_76_46
  by_cases c : r.length = 64
  · refine Or.inr ⟨c, ?_⟩
    rw [if_neg (fun q => q ((i32eq (by omega) (b := 64) (by decide)).mpr c))]
    rfl
  · refine Or.inl ⟨by omega, ?_⟩
    rw [if_pos (show ¬ Int32.ofNat r.length = 64 from fun q => c ((i32eq (by omega) (b := 64) (by decide)).mp q))]
    unfold mf_76_53
    rw [hs]
    show mf_76_65 N v (Int32.ofNat a) (Int32.ofNat a + 2) (Int32.ofNat r.length) s = _
    unfold mf_76_65
    have e2 : Int32.ofNat a + 2 + Int32.ofNat r.length = Int32.ofNat (a + 2 + r.length) := by
      rw [show Int32.ofNat a + 2 = Int32.ofNat (a + 2) from i32al, i32add]
    have e3 : upd (s.2.2.1 47) (a + 2 + r.length) v (a + 1) + 1 = Int32.ofNat (r.length + 1) := by
      unfold upd
      rw [if_neg (by omega), h3]
      exact i32al
    rw [if_pos (gd e2 (by omega) (by decide)), if_pos (gd e1 (by omega) (by decide)), if_pos (gd e1 (by omega) (by decide)), cl e2 (by omega), cl e1 (by omega), e3]
theorem LayR.app {h : Nat → Int32} {R : Nat → Prop} {a : Nat} {v : Int32} (H : LayR h R a r) (hR : R (a + 2 + r.length)) : LayR (upd (upd h (a + 2 + r.length) v) (a + 1) (Int32.ofNat (r.length + 1))) R a (r ++ [v]) := by
  obtain ⟨h1, h2, h3, h4⟩ := H
  refine ⟨fun y q1 q2 => ?_, ?_, ?_, fun i hi => ?_⟩
  · rw [List.length_append] at q2
    have q2 : y < a + 2 + (r.length + 1) := q2
    by_cases e : y = a + 2 + r.length
    · rw [e]
      exact hR
    · exact h1 y q1 (by omega)
  · unfold upd
    rw [if_neg (by omega), if_neg (by omega)]
    exact h2
  · unfold upd
    rw [if_pos rfl, List.length_append]
    rfl
  · unfold upd
    rw [List.length_append] at hi
    have hi : i < r.length + 1 := hi
    rw [if_neg (by omega)]
    by_cases e : i = r.length
    · subst e
      rw [if_pos rfl, List.getElem_append_right (Nat.le_refl _)]
      simp
    · rw [if_neg (by omega), List.getElem_append_left (by omega)]
      exact h4 i (by omega)
/-- a THING whose kind is ROW -/
theorem kdO_row {x : Option (Th 4)} (h : kdO x = 1) : ∃ r, x = some (.inl (.inr (.inl r))) := by
  cases x with
  | none => exact absurd h (show ¬ (-1 : Int32) = 1 by decide)
  | some x =>
    obtain p | l := x
    · obtain z | r | q := p
      · exact absurd h (show ¬ (0 : Int32) = 1 by decide)
      · exact ⟨r, rfl⟩
      · exact absurd h (show ¬ (2 : Int32) = 1 by decide)
    · exact absurd h (show ¬ (3 : Int32) = 1 by decide)
theorem p_add (h : iS S σ0 k μ t s) (hN : kN t + 3 < zz_out) (a b : Int32) : ∃ t' s' S', ∃ v : Int32, cf_12 N X a b t = some (t', .inl (some (.int v))) ∧ mf_76 N a b s = some (s', some (.int v)) ∧ iS S' σ0 k μ t' s' ∧ (t' = t ∨ ∃ j, j < 8 ∧ fSh σ0 j t t' ∧ rSh σ0 j 3 t t') ∧ mfr (fun _ => False) (fun _ => False) (fun q => q = 47) (fun _ => False) s s' := by
  have h' := h
  obtain ⟨h1, h2, h3, h4, ⟨h5, h50⟩, h6, h7, -⟩ := h'
  unfold cf_12 cf_12_0 mf_76 mf_76_0
  rcases isSh a with ⟨j, hj, rfl, q1, q2⟩ | ⟨q1, q2⟩
  · rw [q1, q2]
    show ∃ t' s' S', ∃ v : Int32, cf_12_4 N X (Int32.ofNat j) b 1 t = _ ∧ mf_76_4 N (Int32.ofNat j) b 1 s = _ ∧ _
    unfold cf_12_4 mf_76_4
    rw [if_neg (by decide), if_pos (by decide)]
    unfold cf_12_7 mf_76_9
    obtain ⟨g1, g2⟩ := h6 j hj
    obtain ⟨i1, i2, i3⟩ := slot_ix hj
    have hc : ∀ {t' : cS} {v : Int32}, v = 0 ∨ v = 1 → cf_26 N X σ0 (Int32.ofNat j) b t = some (t', .inl (some (.int v))) → co_b (kP t 0 7) (fun w0 => if kH t w0 = true then (ko_call 7 (cf_26 N X w0 (Int32.ofNat j) b t) (fun g1 v1 => co_i v1 (fun y => cf_12_16 N X y g1))) else none) = some (t', .inl (some (.int v))) := fun hv q => by
      rw [h2]
      show (if kH t σ0 = true then _ else none) = _
      rw [if_pos h5.1, q]
      rcases hv with rfl | rfl <;> rfl
    have hcl : (serO (S j)).length ≤ 1400 := Nat.le_trans (serO_len (fun y hy => h7 j y hy)) (by decide)
    have hk := c_kindOn (N := N) (X := X) h5 hj hcl g1
    have hc0 : cf_26 N X σ0 (Int32.ofNat j) b t = cf_26_5 N X σ0 (Int32.ofNat j) b (kdO (S j)) t := by
      unfold cf_26 cf_26_0
      rw [if_pos h5.1, hk]
      rfl
    have hd : (s.2.2.1 47) (2410 * j) = kdO (S j) := g2.hd
    rw [if_pos i2, i1, hd]
    unfold cf_26_5 at hc0
    by_cases e : kdO (S j) = 1
    · obtain ⟨r, hr⟩ := kdO_row e
      have hrl : r.length ≤ 64 := h7 j _ hr
      rw [hr] at g1 g2
      have g2 : LayR (s.2.2.1 47) (Rk j) (2410 * j) r := g2
      rw [if_pos e] at hc0 ⊢
      rw [i3]
      rcases r_app (N := N) (a := 2410 * j) (by omega) g2 hrl b with ⟨c1, c2⟩ | ⟨c1, c2⟩
      · rcases c_app (N := N) (X := X) h5 hj hrl g1 (by omega) b with ⟨d1, t', d2, d3, d4, d5, d6⟩ | ⟨d1, -⟩
        · rw [c2]
          refine ⟨t', _, _, 1, hc (Or.inr rfl) (hc0.trans d2), rfl, h.chg hj (x := some (.inl (.inr (.inl (r ++ [b]))))) (fun y hy => by cases hy; show (r ++ [b]).length ≤ 64; rw [List.length_append]; exact c1) d3 d4 d5 rfl (fun y hy => ?_) (LayR.app g2 ⟨by omega, by omega⟩), Or.inr ⟨j, hj, d5, ⟨by have := d6.1; omega, d6.2⟩⟩, ⟨fun _ _ => rfl, fun _ _ => rfl, fun q r => (if_neg r).trans (if_neg r), fun _ _ => rfl⟩⟩
          show upd (upd (s.2.2.1 47) (2410 * j + 2 + r.length) b) (2410 * j + 1) (Int32.ofNat (r.length + 1)) y = _
          unfold upd
          rw [if_neg (by omega), if_neg (by omega)]
        · omega
      · rcases c_app (N := N) (X := X) h5 hj hrl g1 (by omega) b with ⟨d1, -⟩ | ⟨d1, d2⟩
        · omega
        · rw [c2]
          exact ⟨t, s, S, 0, hc (Or.inl rfl) (hc0.trans d2), rfl, h, Or.inl rfl, mfr.rf⟩
    · rw [if_neg e] at hc0 ⊢
      unfold mf_76_25
      rw [if_pos i2, i3]
      have ea : Int32.ofNat (2410 * j) + 1 = Int32.ofNat (2410 * j + 1) := i32al
      rw [if_pos (gd ea (by omega) (by decide)), cl ea (by omega), i32c (m := 2410 * j) (by omega)]
      generalize hs1 : mA (mA s 47 (upd (s.2.2.1 47) (2410 * j) 1)) 47 (upd (upd (s.2.2.1 47) (2410 * j) 1) (2410 * j + 1) 0) = s1
      have e47 : s1.2.2.1 47 = upd (upd (s.2.2.1 47) (2410 * j) 1) (2410 * j + 1) 0 := by rw [← hs1]; rfl
      have g2 : LayR (s1.2.2.1 47) (Rk j) (2410 * j) [] := by
        rw [e47]
        refine ⟨fun y p1 p2 => ⟨p1, by have : y < 2410 * j + 2 + 0 := p2; omega⟩, ?_, ?_, fun i hi => absurd hi (Nat.not_lt_zero _)⟩
        · unfold upd
          rw [if_neg (by omega), if_pos rfl]
        · unfold upd
          rw [if_pos rfl]
          rfl
      obtain ⟨z1, z2, z3, z4⟩ := c_zero h5 hj
      obtain ⟨t1, a1, a2, a3, a4, a5⟩ := c_put (N := N) (X := X) z1 hj z2 (by decide) (by show kN t + 1 < _; omega) 1
      obtain ⟨t2, b1, b2, b3, b4, b5⟩ := c_put (N := N) (X := X) a2 hj a3 (by decide) (by have : kN t1 ≤ kN t + 1 := a5.1; omega) 0
      have n1 : kN t1 ≤ kN t + 1 := a5.1
      have n2 : kN t2 ≤ kN t1 + 1 := b5.1
      have hc1 : cf_26_9 N X σ0 (Int32.ofNat j) b t = cf_26_28 N X σ0 (Int32.ofNat j) b t2 := by
        unfold cf_26_9
        rw [if_pos h5.1, i32c (m := j) (by omega), if_pos (fun q => q.elim (i32n (by omega)) (by have := h5.2.1; omega)), a1]
        show cf_26_22 N X σ0 (Int32.ofNat j) b t1 = _
        unfold cf_26_22
        rw [if_pos a2.1, b1]
        rfl
      rcases c_app (N := N) (X := X) (r := []) b2 hj (by decide) b3 (by omega) b with ⟨d1, t', d2, d3, d4, d5, d6⟩ | ⟨d1, -⟩
      · rcases r_app (N := N) (a := 2410 * j) (by omega) g2 (by decide) b with ⟨c1, c2⟩ | ⟨c1, -⟩
        · rw [c2]
          have f := (z3.tr (a4.tr b4)).tr d5
          have rr := (z4.tr (a5.tr b5)).tr d6
          refine ⟨t', _, _, 1, hc (Or.inr rfl) (hc0.trans (hc1.trans d2)), rfl, h.chg hj (x := some (.inl (.inr (.inl ([] ++ [b]))))) (fun y hy => by cases hy; exact (show 1 ≤ 64 by decide)) d3 d4 f (by rw [← hs1]; rfl) (fun y hy => ?_) (LayR.app g2 ⟨by omega, by show 2410 * j + 2 + 0 < _; omega⟩), Or.inr ⟨j, hj, f, ⟨by have := rr.1; omega, rr.2⟩⟩, ⟨fun _ _ => by rw [← hs1]; rfl, fun _ _ => by rw [← hs1]; rfl, fun q r => by rw [← hs1]; exact (if_neg r).trans ((if_neg r).trans ((if_neg r).trans (if_neg r))), fun _ _ => by rw [← hs1]; rfl⟩⟩
          show upd (upd (s1.2.2.1 47) (2410 * j + 2 + 0) b) (2410 * j + 1) _ y = _
          rw [e47]
          unfold upd
          rw [if_neg (by omega), if_neg (by omega), if_neg (by omega), if_neg (by omega)]
        · exact absurd c1 (by decide)
      · exact absurd d1 (by decide)
  · rw [q1, q2]
    exact ⟨t, s, S, 0, rfl, rfl, h, Or.inl rfl, mfr.rf⟩
end PA
