/-! ===== PURE: kind, clear, set, add ===== -/
/-- both sides' shelves and what is kept of them: S k is what slot k has (0..7 the shelves, 8 + 8 m + j what mark m kept of shelf j) -/
def iS (S : Nat → Option (Th 4)) (σ0 k : Nat) (μ : Nat → Nat) (t : cS) (s : mS) : Prop :=
  k ≤ 6 ∧ kP t 0 7 = some σ0 ∧ kI t 0 9 = Int32.ofNat k ∧ s.1 88 = Int32.ofNat k ∧ (cS0 t σ0 ∧ σ0 < kN t) ∧
  (∀ j, j < 8 → cS1 t σ0 j (serO (S j)) ∧ rSl (s.2.2.1 47) j (S j)) ∧ (∀ j x, S j = some x → wfT 4 x) ∧
  (∀ m, m < 6 → ∀ σ, kM t m = some σ → (cS0 t σ ∧ σ < kN t) ∧ σ ≠ σ0 ∧ ∀ m' σ', m' < 6 → kM t m' = some σ' → σ = σ' → m = m') ∧
  (∀ m, m < k → kM t m = some (μ m) ∧ ∀ j, j < 8 → cS1 t (μ m) j (serO (S (8 + 8 * m + j))) ∧ rSl (s.2.2.1 47) (8 + 8 * m + j) (S (8 + 8 * m + j)))
section PK
variable {N : Nat} {X : Nat → Option zz_C} {t t' : cS} {s s' : mS} {σ σ0 k j : Nat} {μ : Nat → Nat} {S : Nat → Option (Th 4)} {ξ : List Int32}
theorem isSh (a : Int32) : (∃ j, j < 8 ∧ a = Int32.ofNat j ∧ (∀ N X t, cf_21 N X a t = some (t, .inl (some (.int 1)))) ∧ ∀ N s, mf_73 N a s = some (s, some (.int 1))) ∨ ((∀ N X t, cf_21 N X a t = some (t, .inl (some (.int 0)))) ∧ ∀ N s, mf_73 N a s = some (s, some (.int 0))) := by
  by_cases e0 : a < 0
  · right
    refine ⟨fun N X t => ?_, fun N s => ?_⟩
    · unfold cf_21 cf_21_0
      rw [if_pos e0]
      rfl
    · unfold mf_73 mf_73_0
      rw [if_pos e0]
      rfl
  · obtain ⟨m, hm, rfl⟩ := i32of e0
    by_cases e1 : 8 ≤ m
    · right
      have e2 : (8 : Int32) ≤ Int32.ofNat m := (i32le (a := 8) (by decide) hm).mpr e1
      refine ⟨fun N X t => ?_, fun N s => ?_⟩
      · unfold cf_21 cf_21_0 cf_21_4
        rw [if_neg e0, if_pos e2]
        rfl
      · unfold mf_73 mf_73_0 mf_73_4
        rw [if_neg e0, if_pos e2]
        rfl
    · left
      have e2 : ¬ (8 : Int32) ≤ Int32.ofNat m := fun q => e1 ((i32le (a := 8) (by decide) hm).mp q)
      refine ⟨m, by omega, rfl, fun N X t => ?_, fun N s => ?_⟩
      · unfold cf_21 cf_21_0 cf_21_4
        rw [if_neg e0, if_neg e2]
        rfl
      · unfold mf_73 mf_73_0 mf_73_4
        rw [if_neg e0, if_neg e2]
        rfl
theorem serO_len {x : Option (Th 4)} (hw : ∀ y, x = some y → wfT 4 y) : (serO x).length ≤ 1200 := by
  cases x with
  | none => exact Nat.zero_le _
  | some y =>
    have h1 := ser_len 4 y
    have h2 := bulk_wf 4 y (hw y rfl)
    show (ser 4 y).length ≤ 1200
    omega
/-- a shelf's kind -/
theorem c_kindOn (h0 : cS0 t σ) (hj : j < 8) {x : Option (Th 4)} (hx : (serO x).length ≤ 1400) (h : cS1 t σ j (serO x)) : cf_23 N X σ (Int32.ofNat j) t = some (t, .inl (some (.int (kdO x)))) := by
  obtain ⟨g1, g2, g3⟩ := h0
  obtain ⟨h1, h2, h3⟩ := h
  unfold cf_23 cf_23_0
  rw [if_pos g1, i32c (m := j) (by omega), if_pos (fun q => q.elim (i32n (by omega)) (by omega)), h1]
  cases x with
  | none =>
    rw [if_neg (fun q => q rfl)]
    rfl
  | some y =>
    obtain ⟨l, hl⟩ := ser_kd 4 y
    have hl : serO (some y) = kdT 4 y :: l := hl
    have hp : 0 < (serO (some y)).length := by rw [hl]; exact Nat.succ_pos _
    rw [if_pos (fun q => by have := (i32eq (b := 0) (by omega) (by decide)).mp q; omega)]
    unfold cf_23_13
    have e0 : Int32.toNatClampNeg (0 : Int32) = 0 := rfl
    rw [if_pos g1, i32c (m := j) (by omega), if_pos (fun q => q.elim (i32n (by omega)) (by omega)), e0, if_pos (fun q => q.elim (by decide) (by omega)), h3 0 hp]
    have e1 : (serO (some y))[0] = kdT 4 y := by
      have := List.getElem_of_eq hl hp
      rw [this]
      rfl
    rw [e1]
    rfl
/-- the reference's big array at a slot -/
theorem slot_ix (hj : j < 8) : Int32.toNatClampNeg (2410 * Int32.ofNat j) = 2410 * j ∧ ¬ ((2410 : Int32) * Int32.ofNat j < 0 ∨ 166300 ≤ Int32.toNatClampNeg (2410 * Int32.ofNat j)) ∧ (2410 : Int32) * Int32.ofNat j = Int32.ofNat (2410 * j) := by
  have e : (2410 : Int32) * Int32.ofNat j = Int32.ofNat (2410 * j) := i32mul (a := 2410) (b := j)
  rw [e, i32c (by omega)]
  exact ⟨rfl, fun q => q.elim (i32n (by omega)) (by omega), rfl⟩
theorem p_kind (h : iS S σ0 k μ t s) (a : Int32) : ∃ v : Int32, cf_14 N X a t = some (t, .inl (some (.int v))) ∧ mf_79 N a s = some (s, some (.int v)) := by
  obtain ⟨h1, h2, h3, h4, ⟨h5, h50⟩, h6, h7, -⟩ := h
  unfold cf_14 cf_14_0 mf_79 mf_79_0
  rcases isSh a with ⟨j, hj, rfl, q1, q2⟩ | ⟨q1, q2⟩
  · rw [q1, q2]
    show ∃ v : Int32, cf_14_4 N X (Int32.ofNat j) 1 t = _ ∧ mf_79_4 N (Int32.ofNat j) 1 s = _
    unfold cf_14_4 mf_79_4
    rw [if_neg (by decide), if_neg (by decide)]
    unfold cf_14_7 mf_79_7
    obtain ⟨g1, g2⟩ := h6 j hj
    obtain ⟨i1, i2, i3⟩ := slot_ix hj
    refine ⟨kdO (S j), ?_, ?_⟩
    · rw [h2]
      show (if kH t σ0 = true then _ else none) = _
      rw [if_pos h5.1, c_kindOn h5 hj (Nat.le_trans (serO_len (fun y hy => h7 j y hy)) (by decide)) g1]
      rfl
    · rw [if_pos i2, i1, g2.hd]
      rfl
  · rw [q1, q2]
    exact ⟨-1, rfl, rfl⟩
/-- shelf j is emptied -/
theorem c_zero (h0 : cS0 t σ) (hj : j < 8) : cS0 (jA t (2000000 + 20 * σ + 10) (upd (kA t (2000000 + 20 * σ + 10)).2 j 0)) σ ∧ cS1 (jA t (2000000 + 20 * σ + 10) (upd (kA t (2000000 + 20 * σ + 10)).2 j 0)) σ j [] ∧ fSh σ j t (jA t (2000000 + 20 * σ + 10) (upd (kA t (2000000 + 20 * σ + 10)).2 j 0)) ∧ rSh σ j 0 t (jA t (2000000 + 20 * σ + 10) (upd (kA t (2000000 + 20 * σ + 10)).2 j 0)) := by
  obtain ⟨g1, g2, g3⟩ := h0
  have eR : ∀ i, i < 8 → kA (jA t (2000000 + 20 * σ + 10) (upd (kA t (2000000 + 20 * σ + 10)).2 j 0)) (2000000 + 20 * σ + 1 + 1 + i) = kA t (2000000 + 20 * σ + 1 + 1 + i) := fun i hi => by rw [kA_jA, if_neg (by omega)]
  have eL : kA (jA t (2000000 + 20 * σ + 10) (upd (kA t (2000000 + 20 * σ + 10)).2 j 0)) (2000000 + 20 * σ + 10) = ((kA t (2000000 + 20 * σ + 10)).1, upd (kA t (2000000 + 20 * σ + 10)).2 j 0) := by rw [kA_jA, if_pos rfl]
  refine ⟨⟨g1, by rw [eL]; exact g2, fun i hi => by rw [eR i hi]; exact g3 i hi⟩, ⟨?_, Nat.zero_le _, fun i hi => absurd hi (Nat.not_lt_zero _)⟩, ⟨⟨fun _ _ _ => rfl, rfl, rfl, fun k q r => by rw [kA_jA, if_neg (fun z => q (Or.inr z))], fun _ _ _ => rfl, rfl, rfl, Nat.le_refl _⟩, fun i hi => ?_, by rw [eL]⟩, ⟨Nat.le_refl _, by rw [eR j hj]; exact Nat.le_refl _, by rw [eR j hj]; exact Nat.le_refl _⟩⟩
  · rw [eL]
    show upd _ j 0 j = _
    unfold upd
    rw [if_pos rfl]
    rfl
  · rw [eL]
    show upd _ j 0 i = _
    unfold upd
    rw [if_neg hi]
/-- one shelf has changed, on both sides -/
theorem iS.chg (h : iS S σ0 k μ t s) (hj : j < 8) {x : Option (Th 4)} (hx : ∀ y, x = some y → wfT 4 y) (g0 : cS0 t' σ0) (g1 : cS1 t' σ0 j (serO x)) (g2 : fSh σ0 j t t') (r1 : s'.1 88 = s.1 88) (r2 : ∀ y, ¬ (2410 * j ≤ y ∧ y < 2410 * j + 2410) → s'.2.2.1 47 y = s.2.2.1 47 y) (r3 : rSl (s'.2.2.1 47) j x) : iS (fun i => if i = j then x else S i) σ0 k μ t' s' := by
  obtain ⟨h1, h2, h3, h4, ⟨h5, h50⟩, h6, h7, h8, h9⟩ := h
  obtain ⟨⟨f1, f2, f3, f4, f5, f6, f7, f70⟩, f8, f9⟩ := g2
  have hK : ∀ σ, σ ≠ σ0 → ∀ i, i ≤ 10 → kA t' (2000000 + 20 * σ + i) = kA t (2000000 + 20 * σ + i) := fun σ hσ i hi => f4 _ (by omega) (by omega)
  have hS : ∀ σ, σ ≠ σ0 → ∀ i, i < 8 → kA t' (2000000 + 20 * σ + 1 + 1 + i) = kA t (2000000 + 20 * σ + 1 + 1 + i) := fun σ hσ i hi => f4 _ (by omega) (by omega)
  have h0 : ∀ σ, σ ≠ σ0 → cS0 t σ → cS0 t' σ := fun σ hσ q => ⟨by rw [f7]; exact q.1, by rw [hK σ hσ 10 (by omega)]; exact q.2.1, fun i hi => by rw [hS σ hσ i hi]; exact q.2.2 i hi⟩
  have hc : ∀ σ, σ ≠ σ0 → ∀ i, i < 8 → ∀ ξ, cS1 t σ i ξ → cS1 t' σ i ξ := fun σ hσ i hi ξ q => ⟨by rw [hK σ hσ 10 (by omega)]; exact q.1, by rw [hS σ hσ i hi]; exact q.2.1, fun y hy => by rw [hS σ hσ i hi]; exact q.2.2 y hy⟩
  have hr : ∀ i, i ≠ j → ∀ y, rSl (s.2.2.1 47) i y → rSl (s'.2.2.1 47) i y := fun i hi y q => q.congr (fun z z1 => r2 z (fun z2 => by obtain ⟨u1, u2⟩ := z1; omega))
  refine ⟨h1, by rw [f3]; exact h2, by rw [f1 0 9 (fun z => z)]; exact h3, r1.trans h4, ⟨g0, Nat.lt_of_lt_of_le h50 f70⟩, fun i hi => ?_, fun i y hy => ?_, fun m hm σ hσ => ?_, fun m hm => ?_⟩
  · show cS1 t' σ0 i (serO (if i = j then x else S i)) ∧ rSl (s'.2.2.1 47) i (if i = j then x else S i)
    by_cases e : i = j
    · subst e
      rw [if_pos rfl]
      exact ⟨g1, r3⟩
    · rw [if_neg e]
      obtain ⟨q1, q2⟩ := h6 i hi
      refine ⟨⟨by rw [f8 i e]; exact q1.1, ?_, fun z hz => ?_⟩, hr i e _ q2⟩
      · rw [f4 _ (by omega) (by omega)]
        exact q1.2.1
      · rw [f4 _ (by omega) (by omega)]
        exact q1.2.2 z hz
  · by_cases e : i = j
    · have hy : (if i = j then x else S i) = some y := hy
      rw [if_pos e] at hy
      exact hx y hy
    · have hy : (if i = j then x else S i) = some y := hy
      rw [if_neg e] at hy
      exact h7 i y hy
  · rw [f6] at hσ
    obtain ⟨q1, q2, q3⟩ := h8 m hm σ hσ
    exact ⟨⟨h0 σ q2 q1.1, Nat.lt_of_lt_of_le q1.2 f70⟩, q2, fun m' σ' a b c => q3 m' σ' a (by rw [f6] at b; exact b) c⟩
  · obtain ⟨q1, q2⟩ := h9 m hm
    have q3 := (h8 m (by omega) (μ m) q1).2.1
    refine ⟨by rw [f6]; exact q1, fun i hi => ?_⟩
    have e : ¬ (8 + 8 * m + i = j) := by omega
    show cS1 t' (μ m) i (serO (if 8 + 8 * m + i = j then x else S (8 + 8 * m + i))) ∧ rSl (s'.2.2.1 47) (8 + 8 * m + i) (if 8 + 8 * m + i = j then x else S (8 + 8 * m + i))
    rw [if_neg e]
    exact ⟨hc (μ m) q3 i hi _ (q2 i hi).1, hr _ e _ (q2 i hi).2⟩
theorem p_clear (h : iS S σ0 k μ t s) (a : Int32) : ∃ t' s' S', ∃ v : Int32, cf_13 N X a t = some (t', .inl (some (.int v))) ∧ mf_78 N a s = some (s', some (.int v)) ∧ iS S' σ0 k μ t' s' ∧ (t' = t ∨ ∃ j, j < 8 ∧ fSh σ0 j t t' ∧ rSh σ0 j 0 t t') ∧ mfr (fun _ => False) (fun _ => False) (fun q => q = 47) (fun _ => False) s s' := by
  have h' := h
  obtain ⟨h1, h2, h3, h4, ⟨h5, h50⟩, h6, h7, -⟩ := h'
  unfold cf_13 cf_13_0 mf_78 mf_78_0
  rcases isSh a with ⟨j, hj, rfl, q1, q2⟩ | ⟨q1, q2⟩
  · rw [q1, q2]
    show ∃ t' s' S', ∃ v : Int32, cf_13_4 N X (Int32.ofNat j) 1 t = _ ∧ mf_78_4 N (Int32.ofNat j) 1 s = _ ∧ _
    unfold cf_13_4 mf_78_4
    rw [if_neg (by decide), if_neg (by decide)]
    unfold cf_13_7 mf_78_7
    obtain ⟨g1, g2⟩ := h6 j hj
    obtain ⟨i1, i2, i3⟩ := slot_ix hj
    have hk : (co_b (kP t 0 7) (fun w0 => if kH t w0 = true then (ko_call 7 (cf_23 N X w0 (Int32.ofNat j) t) (fun g1 v1 => co_i v1 (fun y => cf_13_15 N X (Int32.ofNat j) y g1))) else none)) = cf_13_15 N X (Int32.ofNat j) (kdO (S j)) t := by
      rw [h2]
      show (if kH t σ0 = true then _ else none) = _
      rw [if_pos h5.1, c_kindOn h5 hj (Nat.le_trans (serO_len (fun y hy => h7 j y hy)) (by decide)) g1]
      rfl
    rw [hk, if_pos i2, i1, g2.hd]
    unfold cf_13_15
    cases hS : S j with
    | none => exact ⟨t, s, S, 0, rfl, rfl, h, Or.inl rfl, mfr.rf⟩
    | some y =>
      have hne : ¬ kdT 4 y = -1 := by
        obtain p | l := y
        · obtain z | r | q := p
          · show ¬ (0 : Int32) = -1
            decide
          · show ¬ (1 : Int32) = -1
            decide
          · show ¬ (2 : Int32) = -1
            decide
        · show ¬ (3 : Int32) = -1
          decide
      rw [if_pos (show ¬ kdO (some y) = -1 from hne), if_pos (show ¬ kdO (some y) = -1 from hne)]
      unfold cf_13_21 mf_78_23
      rw [if_pos i2, i1]
      obtain ⟨z1, z2, z3, z4⟩ := c_zero h5 hj
      refine ⟨_, _, _, 1, ?_, rfl, h.chg hj (x := none) (fun y hy => by cases hy) z1 z2 z3 rfl (fun y hy => ?_) ?_, Or.inr ⟨j, hj, z3, z4⟩, ⟨fun _ _ => rfl, fun _ _ => rfl, fun q r => if_neg r, fun _ _ => rfl⟩⟩
      · rw [h2]
        show (if kH t σ0 = true then _ else none) = _
        rw [if_pos h5.1]
        unfold cf_214 cf_214_0
        rw [if_pos h5.1, i32c (m := j) (by omega), if_pos (fun q => q.elim (i32n (by omega)) (by have := h5.2.1; omega))]
        rfl
      · show upd _ (2410 * j) (-1) y = _
        unfold upd
        rw [if_neg (by omega)]
      · show upd _ (2410 * j) (-1) (2410 * j) = -1
        unfold upd
        rw [if_pos rfl]
  · rw [q1, q2]
    exact ⟨t, s, S, 0, rfl, rfl, h, Or.inl rfl, mfr.rf⟩
/-- an INT is laid on a shelf -/
theorem c_layInt (h0 : cS0 t σ) (hj : j < 8) (hr : kN t + 2 < zz_out) (v : Int32) : ∃ t', cf_24 N X σ (Int32.ofNat j) v t = some (t', .inl none) ∧ cS0 t' σ ∧ cS1 t' σ j [0, v] ∧ fSh σ j t t' ∧ rSh σ j 2 t t' := by
  obtain ⟨z1, z2, z3, z4⟩ := c_zero h0 hj
  obtain ⟨t1, a1, a2, a3, a4, a5⟩ := c_put (N := N) (X := X) z1 hj z2 (by decide) (by show kN t + 1 < _; omega) 0
  obtain ⟨t2, b1, b2, b3, b4, b5⟩ := c_put (N := N) (X := X) a2 hj a3 (by decide) (by have : kN t1 ≤ kN t + 1 := a5.1; omega) v
  refine ⟨t2, ?_, b2, b3, z3.tr (a4.tr b4), (z4.tr (a5.tr b5))⟩
  unfold cf_24 cf_24_0
  rw [if_pos h0.1, i32c (m := j) (by omega), if_pos (fun q => q.elim (i32n (by omega)) (by have := h0.2.1; omega)), a1]
  show cf_24_13 N X σ (Int32.ofNat j) v t1 = _
  unfold cf_24_13
  rw [if_pos a2.1, b1]
  rfl
theorem p_set (h : iS S σ0 k μ t s) (hr : kN t + 2 < zz_out) (a b : Int32) : ∃ t' s' S', ∃ v : Int32, cf_11 N X a b t = some (t', .inl (some (.int v))) ∧ mf_74 N a b s = some (s', some (.int v)) ∧ iS S' σ0 k μ t' s' ∧ (t' = t ∨ ∃ j, j < 8 ∧ fSh σ0 j t t' ∧ rSh σ0 j 2 t t') ∧ mfr (fun _ => False) (fun _ => False) (fun q => q = 47) (fun _ => False) s s' := by
  have h' := h
  obtain ⟨h1, h2, h3, h4, ⟨h5, h50⟩, h6, h7, -⟩ := h'
  unfold cf_11 cf_11_0 mf_74 mf_74_0
  rcases isSh a with ⟨j, hj, rfl, q1, q2⟩ | ⟨q1, q2⟩
  · rw [q1, q2]
    show ∃ t' s' S', ∃ v : Int32, cf_11_4 N X (Int32.ofNat j) b 1 t = _ ∧ mf_74_4 N (Int32.ofNat j) b 1 s = _ ∧ _
    unfold cf_11_4 mf_74_4
    rw [if_pos (by decide), if_pos (by decide)]
    unfold cf_11_9 mf_74_9
    obtain ⟨i1, i2, i3⟩ := slot_ix hj
    obtain ⟨t1, a1, a2, a3, a4, a5⟩ := c_layInt (N := N) (X := X) h5 hj hr b
    have e1 : (2410 : Int32) * Int32.ofNat j + 1 = Int32.ofNat (2410 * j + 1) := by
      rw [i3]
      exact i32add (b := 1)
    have hl : mf_75 N 0 b (2410 * Int32.ofNat j) s = some (mA (mA s 47 (upd (s.2.2.1 47) (2410 * j) 0)) 47 (upd (upd (s.2.2.1 47) (2410 * j) 0) (2410 * j + 1) b), none) := by
      unfold mf_75 mf_75_0
      rw [if_pos (by decide)]
      unfold mf_75_13
      rw [if_neg (by decide)]
      unfold mf_75_17
      rw [if_pos i2, e1, i32c (m := 2410 * j + 1) (by omega), i1, if_pos (fun q => q.elim (i32n (by omega)) (by omega))]
    rw [hl]
    refine ⟨t1, _, _, 1, ?_, rfl, h.chg hj (x := some (.inl (.inl b))) (fun y hy => by cases hy; exact trivial) a2 a3 a4 rfl (fun y hy => ?_) ⟨?_, ?_⟩, Or.inr ⟨j, hj, a4, a5⟩, ⟨fun _ _ => rfl, fun _ _ => rfl, fun q r => (if_neg r).trans (if_neg r), fun _ _ => rfl⟩⟩
    · rw [h2]
      show (if kH t σ0 = true then _ else none) = _
      rw [if_pos h5.1, a1]
      rfl
    · show upd (upd (s.2.2.1 47) (2410 * j) 0) (2410 * j + 1) b y = _
      unfold upd
      rw [if_neg (by omega), if_neg (by omega)]
    · show upd (upd (s.2.2.1 47) (2410 * j) 0) (2410 * j + 1) b (2410 * j) = 0
      unfold upd
      rw [if_neg (by omega), if_pos rfl]
    · show upd (upd (s.2.2.1 47) (2410 * j) 0) (2410 * j + 1) b (2410 * j + 1) = b
      unfold upd
      rw [if_pos rfl]
  · rw [q1, q2]
    exact ⟨t, s, S, 0, rfl, rfl, h, Or.inl rfl, mfr.rf⟩
end PK
