/-! ===== PURE: mark ===== -/
section PO
variable {N : Nat} {X : Nat → Option zz_C} {t t' : cS} {s s' : mS} {σ σ1 σ0 k m : Nat} {μ : Nat → Nat} {S : Nat → Option (Th 4)}
abbrev mfM (s s' : mS) : Prop := mfr (fun q => q = 88) (fun _ => False) (fun q => q = 47 ∨ q = 58 ∨ q = 59) (fun _ => False) s s'
/-- a place for another mark -/
theorem mk_new (h : iS S σ0 k μ t s) (hk : k < 6) (hM : kM t k = none) : iS S σ0 k μ (jM (jSh t) (va_up (kM t) k (some (kN t)))) s ∧ lfr t (jM (jSh t) (va_up (kM t) k (some (kN t)))) ∧ gA t σ0 ≤ gA (jM (jSh t) (va_up (kM t) k (some (kN t)))) σ0 := by
  obtain ⟨h1, h2, h3, h4, ⟨h5, h50⟩, h6, h7, h8, h9⟩ := h
  generalize ht1 : jM (jSh t) (va_up (kM t) k (some (kN t))) = t1
  have eA : ∀ a, ¬ (2000000 + 20 * kN t ≤ a ∧ a < 2000000 + 20 * kN t + 20) → kA t1 a = kA t a := fun a q => by
    rw [← ht1]
    exact if_neg q
  have eN : kN t1 = kN t + 11 := by rw [← ht1]; rfl
  have eH : ∀ a, kH t a = true → kH t1 a = true := fun a q => by
    rw [← ht1]
    show (if a = kN t then true else kH t a) = true
    by_cases c : a = kN t
    · rw [if_pos c]
    · rw [if_neg c]
      exact q
  have eM : ∀ m, kM t1 m = if m = k then some (kN t) else kM t m := fun m => by rw [← ht1]; rfl
  have o0 : ∀ σ, σ < kN t → cS0 t σ → cS0 t1 σ := fun σ hσ q => ⟨eH _ q.1, by rw [eA _ (by omega)]; exact q.2.1, fun i hi => by rw [eA _ (by omega)]; exact q.2.2 i hi⟩
  have o1 : ∀ σ, σ < kN t → ∀ j ξ, j < 8 → cS1 t σ j ξ → cS1 t1 σ j ξ := fun σ hσ j ξ hj q => ⟨by rw [eA _ (by omega)]; exact q.1, by rw [eA _ (by omega)]; exact q.2.1, fun i hi => by rw [eA _ (by omega)]; exact q.2.2 i hi⟩
  have gs : ∀ σ, σ < kN t → gS t1 σ = gS t σ := fun σ hσ => sm_congr (fun i _ hi => by
    show (kA t1 (2000000 + 20 * σ + 1 + 1 + i)).1 = _
    rw [eA _ (by omega)])
  have n0 : cS0 t1 (kN t) := by
    refine ⟨?_, ?_, fun i hi => ?_⟩
    · rw [← ht1]
      exact if_pos rfl
    · rw [← ht1]
      show (if 2000000 + 20 * kN t ≤ 2000000 + 20 * kN t + 10 ∧ 2000000 + 20 * kN t + 10 < 2000000 + 20 * kN t + 20 then ((if 2000000 + 20 * kN t + 10 = 2000000 + 20 * kN t + 10 then 8 else 4, fun _ => 0) : Nat × (Nat → Int32)) else _).1 = 8
      rw [if_pos (by omega), if_pos rfl]
    · rw [← ht1]
      show (if 2000000 + 20 * kN t ≤ 2000000 + 20 * kN t + 1 + 1 + i ∧ 2000000 + 20 * kN t + 1 + 1 + i < 2000000 + 20 * kN t + 20 then ((if 2000000 + 20 * kN t + 1 + 1 + i = 2000000 + 20 * kN t + 10 then 8 else 4, fun _ => 0) : Nat × (Nat → Int32)) else _).1 ≤ 3000
      rw [if_pos (by omega), if_neg (by omega)]
      decide
  refine ⟨⟨h1, by rw [← ht1]; exact h2, ?_, h4, ⟨o0 _ h50 h5, by omega⟩, fun j hj => ⟨o1 _ h50 j _ hj (h6 j hj).1, (h6 j hj).2⟩, h7, fun m hm σ hσ => ?_, fun m hm => ?_⟩, ⟨fun a f p q => ?_, by rw [← ht1]; rfl, fun _ _ _ => by rw [← ht1]; rfl, fun a p q => eA a (by omega), fun _ _ _ => by rw [← ht1]; rfl, by omega⟩, ?_⟩
  · rw [← ht1]
    exact (if_neg (by omega)).trans h3
  · rw [eM] at hσ
    by_cases c : m = k
    · rw [if_pos c] at hσ
      cases hσ
      refine ⟨⟨n0, by omega⟩, by omega, fun m' σ' b1 b2 b3 => ?_⟩
      rw [eM] at b2
      by_cases c2 : m' = k
      · omega
      · rw [if_neg c2] at b2
        have := (h8 m' b1 σ' b2).1.2
        omega
    · rw [if_neg c] at hσ
      obtain ⟨⟨p1, p2⟩, p3, p4⟩ := h8 m hm σ hσ
      refine ⟨⟨o0 _ p2 p1, by omega⟩, p3, fun m' σ' b1 b2 b3 => ?_⟩
      rw [eM] at b2
      by_cases c2 : m' = k
      · rw [if_pos c2] at b2
        cases b2
        omega
      · rw [if_neg c2] at b2
        exact p4 m' σ' b1 b2 b3
  · obtain ⟨p1, p2⟩ := h9 m hm
    have p3 := (h8 m (by omega) _ p1).1.2
    exact ⟨by rw [eM, if_neg (by omega)]; exact p1, fun j hj => ⟨o1 _ p3 j _ hj (p2 j hj).1, (p2 j hj).2⟩⟩
  · rw [← ht1]
    exact if_neg (by omega)
  · unfold gA
    rw [gs _ h50]
    refine Nat.add_le_add_left (sm_le (fun m _ hm => ?_)) _
    show gO t (kM t m) ≤ gO t1 (kM t1 m)
    rw [eM]
    by_cases c : m = k
    · rw [c, hM]
      exact Nat.zero_le _
    · rw [if_neg c]
      cases hσ : kM t m with
      | none => exact Nat.le_refl _
      | some σ => exact Nat.le_of_eq (gs σ (h8 m (by omega) σ hσ).1.2).symm
theorem mk_41 (hN : 8000 ≤ N) (h : iS S σ0 k μ t s) (hk : k < 6) (hM : kM t k = some σ1) (hr : kN t + 8 < zz_out) : ∃ t' s' S' μ', cf_18_41 N X t = some (t', .inl (some (.int (Int32.ofNat (k + 1))))) ∧ mf_83_46 N s = some (s', some (.int (Int32.ofNat (k + 1)))) ∧ iS S' σ0 (k + 1) μ' t' s' ∧ lfr t t' ∧ kN t' ≤ kN t + 8 ∧ kQ t' ≤ kQ t + 9600 ∧ gA t σ0 ≤ gA t' σ0 ∧ mfM s s' := by
  obtain ⟨h1, h2, h3, h4, ⟨h5, h50⟩, h6, h7, h8, h9⟩ := h
  obtain ⟨⟨o1, o2⟩, o3, o4⟩ := h8 k hk _ hM
  have hl : ∀ j, j < 8 → (serO (S j)).length ≤ 1200 := fun j _ => serO_len (fun y hy => h7 j y hy)
  obtain ⟨t2, c1, c2, c3, c4, c5, c6, c7⟩ := c_copy (N := N) (X := X) (σ0 := σ0) (σ1 := σ1) (fun z => o3 z.symm) hl (n0 := kN t) (q0 := kQ t) hr 8 0 t rfl h5 o1 (fun j hj => (h6 j hj).1) (fun j hj => absurd hj (Nat.not_lt_zero _)) (Nat.le_refl _) (Nat.le_refl _)
  have c1 := c1 (N - 9)
  rw [show N - 9 + (8 + 1) = N by omega] at c1
  obtain ⟨s', r1, r2, r3, r4⟩ := r_markL (N := N) (V := S) hN hk (fun j y _ q => h7 j y q) 8 0 s rfl h4 (fun j hj => (h6 j hj).2) (fun j hj => absurd hj (Nat.not_lt_zero _))
  have r1 := r1 (N - 9)
  rw [show N - 9 + (8 + 1) = N by omega] at r1
  have hlf : lfr t t2 := lfr.of c4 (fun k q => by omega) (fun k q => by omega)
  obtain ⟨f1, f2, f3, f4, f5, f6, f7, f8⟩ := c4
  have e9 : kI t2 0 9 + 1 = Int32.ofNat (k + 1) := by
    rw [f1 0 9 (fun z => z), h3]
    exact i32al
  have a0 : ∀ σ, σ ≠ σ1 → cS0 t σ → cS0 t2 σ := fun σ hσ q => ⟨by rw [f7]; exact q.1, by rw [f4 _ (by omega) (by omega)]; exact q.2.1, fun i hi => by rw [f4 _ (by omega) (by omega)]; exact q.2.2 i hi⟩
  have a1 : ∀ σ, σ ≠ σ1 → ∀ j ξ, j < 8 → cS1 t σ j ξ → cS1 t2 σ j ξ := fun σ hσ j ξ hj q => ⟨by rw [f4 _ (by omega) (by omega)]; exact q.1, by rw [f4 _ (by omega) (by omega)]; exact q.2.1, fun i hi => by rw [f4 _ (by omega) (by omega)]; exact q.2.2 i hi⟩
  have gs : ∀ σ, gS t σ ≤ gS t2 σ := fun σ => sm_le (fun i _ hi => by
    show (kA t (2000000 + 20 * σ + 1 + 1 + i)).1 ≤ (kA t2 (2000000 + 20 * σ + 1 + 1 + i)).1
    by_cases c : σ = σ1
    · rw [c]
      exact c7 i (by omega)
    · rw [f4 _ (by omega) (by omega)]
      exact Nat.le_refl _)
  refine ⟨jI t2 0 9 (Int32.ofNat (k + 1)), mI s' 88 (Int32.ofNat (k + 1)), fun i => if 8 + 8 * k ≤ i ∧ i < 16 + 8 * k then S (i - (8 + 8 * k)) else S i, fun m => if m = k then σ1 else μ m, ?_, r1, ⟨by omega, ?_, rfl, rfl, ⟨a0 σ0 (fun z => o3 z.symm) h5, Nat.lt_of_lt_of_le h50 f8⟩, fun j hj => ?_, fun j x hx => ?_, fun m hm σ hσ => ?_, fun m hm => ?_⟩, hlf.tr ⟨fun a f _ q => if_neg q, rfl, fun _ _ _ => rfl, fun _ _ _ => rfl, fun _ _ _ => rfl, Nat.le_refl _⟩, c5, c6, ?_, ?_⟩
  · unfold cf_18_41
    rw [h3, i32c (m := k) (by omega), if_pos (fun q => q.elim (i32n (by omega)) (by omega)), hM, h2]
    show (if kH t σ1 = true then _ else none) = _
    rw [if_pos o1.1]
    unfold cf_29 cf_29_0
    rw [show (0 : Int32) = Int32.ofNat 0 from rfl, c1]
    show cf_18_57 N X t2 = _
    unfold cf_18_57
    rw [e9]
  · show kP t2 0 7 = _
    rw [f3]
    exact h2
  · show cS1 t2 σ0 j (serO (if 8 + 8 * k ≤ j ∧ j < 16 + 8 * k then _ else S j)) ∧ rSl (s'.2.2.1 47) j (if 8 + 8 * k ≤ j ∧ j < 16 + 8 * k then _ else S j)
    rw [if_neg (by omega)]
    exact ⟨a1 σ0 (fun z => o3 z.symm) j _ hj (h6 j hj).1, (h6 j hj).2.congr (fun y hy => r3 y (fun z => by obtain ⟨u1, u2⟩ := hy; omega))⟩
  · have hx : (if 8 + 8 * k ≤ j ∧ j < 16 + 8 * k then S (j - (8 + 8 * k)) else S j) = some x := hx
    by_cases c : 8 + 8 * k ≤ j ∧ j < 16 + 8 * k
    · rw [if_pos c] at hx
      exact h7 _ x hx
    · rw [if_neg c] at hx
      exact h7 _ x hx
  · have hσ : kM t2 m = some σ := hσ
    rw [f6] at hσ
    obtain ⟨⟨p1, p2⟩, p3, p4⟩ := h8 m hm σ hσ
    refine ⟨⟨?_, Nat.lt_of_lt_of_le p2 f8⟩, p3, fun m' σ' b1 b2 b3 => ?_⟩
    · by_cases c : σ = σ1
      · rw [c]
        exact c2
      · exact a0 σ c p1
    · have b2 : kM t2 m' = some σ' := b2
      rw [f6] at b2
      exact p4 m' σ' b1 b2 b3
  · show kM t2 m = some (if m = k then σ1 else μ m) ∧ ∀ j, j < 8 → cS1 t2 (if m = k then σ1 else μ m) j (serO (if 8 + 8 * k ≤ 8 + 8 * m + j ∧ 8 + 8 * m + j < 16 + 8 * k then S (8 + 8 * m + j - (8 + 8 * k)) else S (8 + 8 * m + j))) ∧ rSl (s'.2.2.1 47) (8 + 8 * m + j) (if 8 + 8 * k ≤ 8 + 8 * m + j ∧ 8 + 8 * m + j < 16 + 8 * k then S (8 + 8 * m + j - (8 + 8 * k)) else S (8 + 8 * m + j))
    rw [f6]
    by_cases c : m = k
    · subst c
      rw [if_pos rfl]
      refine ⟨hM, fun j hj => ?_⟩
      rw [if_pos (by omega), show 8 + 8 * m + j - (8 + 8 * m) = j by omega]
      exact ⟨c3 j hj, r2 j hj⟩
    · rw [if_neg c]
      obtain ⟨p1, p2⟩ := h9 m (by omega)
      refine ⟨p1, fun j hj => ?_⟩
      rw [if_neg (by omega)]
      exact ⟨a1 (μ m) (fun z => c (o4 m (μ m) (by omega) p1 z.symm).symm) j _ hj (p2 j hj).1, (p2 j hj).2.congr (fun y hy => r3 y (fun z => by obtain ⟨u1, u2⟩ := hy; omega))⟩
  · unfold gA
    refine Nat.add_le_add (gs σ0) (sm_le (fun m _ hm => ?_))
    show gO t (kM t m) ≤ gO t2 (kM t2 m)
    rw [f6]
    cases kM t m with
    | none => exact Nat.le_refl _
    | some σ => exact gs σ
  · exact mfr.tr (s1 := s') ⟨fun q r => r4.1 q (fun z => z), r4.2.1, r4.2.2.1, r4.2.2.2⟩ ⟨fun q r => if_neg r, fun _ _ => rfl, fun _ _ => rfl, fun _ _ => rfl⟩
theorem mk_13 (hN : 8000 ≤ N) (h : iS S σ0 k μ t s) (hk : k < 6) (hr : kN t + 20 < zz_out) : ∃ t' s' S' μ', cf_18_13 N X t = some (t', .inl (some (.int (Int32.ofNat (k + 1))))) ∧ mf_83_46 N s = some (s', some (.int (Int32.ofNat (k + 1)))) ∧ iS S' σ0 (k + 1) μ' t' s' ∧ lfr t t' ∧ kN t' ≤ kN t + 19 ∧ kQ t' ≤ kQ t + 51 + 9600 ∧ gA t σ0 ≤ gA t' σ0 ∧ mfM s s' := by
  have h3 := h.2.2.1
  have eg : ¬ (Int32.ofNat k < 0 ∨ 6 ≤ k) := fun q => q.elim (i32n (by omega)) (by omega)
  unfold cf_18_13
  rw [h3, i32c (m := k) (by omega), if_pos eg]
  cases hM : kM t k with
  | some σ1 =>
    rw [if_pos (show (some σ1).isSome = true from rfl)]
    obtain ⟨t', s', S', μ', q1, q2, q3, q4, q5, q6, q7, q8⟩ := mk_41 (N := N) (X := X) hN h hk hM (by omega)
    exact ⟨t', s', S', μ', q1, q2, q3, q4, by omega, Nat.le_trans q6 (Nat.add_le_add_right (Nat.le_add_right _ _) _), q7, q8⟩
  | none =>
    rw [if_neg (by decide)]
    obtain ⟨g1, g2, g3⟩ := mk_new h hk hM
    have eN : kN (jM (jSh t) (va_up (kM t) k (some (kN t)))) = kN t + 11 := rfl
    have eQ : kQ (jM (jSh t) (va_up (kM t) k (some (kN t)))) = kQ t + 51 := rfl
    obtain ⟨t', s', S', μ', q1, q2, q3, q4, q5, q6, q7, q8⟩ := mk_41 (N := N) (X := X) (σ1 := kN t) hN g1 hk (if_pos rfl) (by rw [eN]; omega)
    refine ⟨t', s', S', μ', ?_, q2, q3, g2.tr q4, ?_, ?_, Nat.le_trans g3 q7, q8⟩
    · unfold cf_18_25
      rw [if_pos (by omega), h3, i32c (m := k) (by omega), if_pos eg, if_pos (show kH (jSh t) (kN t) = true from if_pos rfl)]
      exact q1
    · rw [eN] at q5
      omega
    · rw [eQ] at q6
      exact q6
/-- the oldest mark goes -/
theorem c_dropL {g0 : Nat → Option Nat} {w1 : Nat} (hw : kH t w1 = true) (hg : ∀ m, m < 6 → ∃ σ, g0 m = some σ ∧ kH t σ = true) : ∀ (d i : Nat) (g : Nat → Option Nat), i + d = 6 → 1 ≤ i → (∀ m, g m = if m + 1 < i then g0 (m + 1) else g0 m) → ∃ g', (∀ f, cf_252_L1 N X (f + (d + 1)) 0 w1 (Int32.ofNat i) (jM t g) = some (jI (jM t g') 0 9 (kI t 0 9 - 1), .inl none)) ∧ ∀ m, g' m = if m = 5 then some w1 else if m < 5 then g0 (m + 1) else g0 m := by
  intro d
  induction d with
  | zero =>
    intro i g hi h1 hgi
    have hi : i = 6 := hi
    subst hi
    refine ⟨va_up g 5 (some w1), fun f => ?_, fun m => ?_⟩
    · show cf_252_9 N X (cf_252_L1 N X f) w1 (Int32.ofNat 6) (jM t g) = _
      unfold cf_252_9
      rw [if_pos (show (6 : Int32) ≤ Int32.ofNat 6 by decide)]
      unfold cf_252_35
      rw [if_pos (by decide), if_pos (show kH (jM t g) w1 = true from hw)]
      rfl
    · show (if m = 5 then some w1 else g m) = _
      by_cases c : m = 5
      · rw [if_pos c, if_pos c]
      · rw [if_neg c, if_neg c, hgi]
        by_cases c2 : m < 5
        · rw [if_pos (by omega), if_pos c2]
        · rw [if_neg (by omega), if_neg c2]
  | succ d ih =>
    intro i g hi h1 hgi
    obtain ⟨σ, hσ, hσ'⟩ := hg i (by omega)
    have e1 : g i = some σ := by rw [hgi, if_neg (by omega)]; exact hσ
    obtain ⟨g', q1, q2⟩ := ih (i + 1) (va_up g (i - 1) (some σ)) (by omega) (by omega) (fun m => by
      show (if m = i - 1 then some σ else g m) = _
      by_cases c : m = i - 1
      · rw [if_pos c, if_pos (by omega), ← hσ, show m + 1 = i by omega]
      · rw [if_neg c, hgi]
        by_cases c2 : m + 1 < i
        · rw [if_pos c2, if_pos (by omega)]
        · rw [if_neg c2, if_neg (by omega)])
    refine ⟨g', fun f => ?_, q2⟩
    show cf_252_9 N X (cf_252_L1 N X (f + (d + 1))) w1 (Int32.ofNat i) (jM t g) = _
    unfold cf_252_9
    rw [if_neg (show ¬ (6 : Int32) ≤ Int32.ofNat i from fun q => by have := (i32le (a := 6) (by decide) (by omega)).mp q; omega)]
    unfold cf_252_15
    have e2 : kM (jM t g) i = some σ := e1
    rw [i32c (m := i) (by omega), if_pos (fun q => q.elim (i32n (by omega)) (by omega)), e2, i32sub (a := i) (by omega), i32c (m := i - 1) (by omega)]
    show (if ¬ (_ ∨ _) then _ else none) = _
    rw [if_pos (fun q => q.elim (i32n (by omega)) (by omega)), if_pos (show kH (jM t g) σ = true from hσ'), show Int32.ofNat i + 1 = Int32.ofNat (i + 1) from i32al]
    exact q1 f
theorem p_mark (hN : 8000 ≤ N) (h : iS S σ0 k μ t s) (hr : kN t + 20 < zz_out) : ∃ t' s' S' k' μ', ∃ v : Int32, cf_18 N X t = some (t', .inl (some (.int v))) ∧ mf_83 N s = some (s', some (.int v)) ∧ iS S' σ0 k' μ' t' s' ∧ lfr t t' ∧ kN t' ≤ kN t + 19 ∧ kQ t' ≤ kQ t + 51 + 9600 ∧ gA t σ0 ≤ gA t' σ0 ∧ mfM s s' := by
  have h' := h
  obtain ⟨h1, h2, h3, h4, ⟨h5, h50⟩, h6, h7, h8, h9⟩ := h'
  unfold cf_18 cf_18_0 mf_83 mf_83_0
  rw [h3, h4]
  by_cases e0 : k = 6
  · subst e0
    rw [if_neg (fun q => q rfl), if_neg (fun q => q rfl)]
    unfold cf_18_9 mf_83_9
    obtain ⟨g', q1, q2⟩ := c_dropL (N := N) (X := X) (t := t) (g0 := kM t) (w1 := μ 0) (h8 0 (by omega) _ (h9 0 (by omega)).1).1.1.1 (fun m hm => ⟨μ m, (h9 m hm).1, (h8 m hm _ (h9 m hm).1).1.1.1⟩) 5 1 (kM t) rfl (by omega) (fun m => by rw [if_neg (by omega)])
    have q1 := q1 (N - 6)
    rw [show N - 6 + (5 + 1) = N by omega] at q1
    have hc : cf_252 N X t = some (jI (jM t g') 0 9 (Int32.ofNat 5), .inl none) := by
      unfold cf_252 cf_252_0
      have e0 : Int32.toNatClampNeg (0 : Int32) = 0 := rfl
      rw [if_pos (by decide), e0, (h9 0 (by omega)).1]
      rw [h3] at q1
      exact q1
    obtain ⟨s1, r1, r2, r3, r4⟩ := r_dropL (N := N) (S := S) hN h7 40 8 s rfl (by omega) (fun j hj => (h6 j hj).2) (fun j a b => by
      have := ((h9 ((j - 8) / 8) (by omega)).2 ((j - 8) % 8) (by omega)).2
      rw [show 8 + 8 * ((j - 8) / 8) + (j - 8) % 8 = j by omega] at this
      exact this) (fun j a b => by
      have := ((h9 0 (by omega)).2 (j - 8) (by omega)).2
      rw [show 8 + 8 * 0 + (j - 8) = j by omega] at this
      exact this) (fun j a b => by omega)
    have r1 := r1 (N - 41)
    rw [show N - 41 + (40 + 1) = N by omega] at r1
    rw [hc]
    have eM : ∀ m, kM (jI (jM t g') 0 9 (Int32.ofNat 5)) m = if m = 5 then some (μ 0) else if m < 5 then kM t (m + 1) else kM t m := q2
    have eM' : ∀ m, m < 6 → kM (jI (jM t g') 0 9 (Int32.ofNat 5)) m = some (if m = 5 then μ 0 else μ (m + 1)) := fun m hm => by
      rw [eM]
      by_cases c : m = 5
      · rw [if_pos c, if_pos c]
      · rw [if_neg c, if_neg c, if_pos (by omega)]
        exact (h9 (m + 1) (by omega)).1
    have inj : ∀ a b, a < 6 → b < 6 → μ a = μ b → a = b := fun a b ha hb q => (h8 a ha _ (h9 a ha).1).2.2 b (μ b) hb (h9 b hb).1 q
    have hi : iS (fun i => if i < 8 then S i else S (i + 8)) σ0 5 (fun m => if m = 5 then μ 0 else μ (m + 1)) (jI (jM t g') 0 9 (Int32.ofNat 5)) (mI s1 88 5) := by
      refine ⟨by omega, h2, rfl, rfl, ⟨h5, h50⟩, fun j hj => ?_, fun j x hx => ?_, fun m hm σ hσ => ?_, fun m hm => ⟨eM' m (by omega), fun j hj => ?_⟩⟩
      · show cS1 t σ0 j (serO (if j < 8 then S j else _)) ∧ rSl (s1.2.2.1 47) j (if j < 8 then S j else _)
        rw [if_pos hj]
        exact ⟨(h6 j hj).1, r2 j hj⟩
      · have hx : (if j < 8 then S j else S (j + 8)) = some x := hx
        by_cases c : j < 8
        · rw [if_pos c] at hx
          exact h7 _ x hx
        · rw [if_neg c] at hx
          exact h7 _ x hx
      · rw [eM' m hm] at hσ
        cases hσ
        have hb : ∃ b, b < 6 ∧ (if m = 5 then μ 0 else μ (m + 1)) = μ b ∧ b = if m = 5 then 0 else m + 1 := by
          by_cases c : m = 5
          · exact ⟨0, by omega, by rw [if_pos c], by rw [if_pos c]⟩
          · exact ⟨m + 1, by omega, by rw [if_neg c], by rw [if_neg c]⟩
        obtain ⟨b, hb1, hb2, hb3⟩ := hb
        rw [hb2]
        obtain ⟨p1, p2, p3⟩ := h8 b hb1 _ (h9 b hb1).1
        refine ⟨p1, p2, fun m' σ' u1 u2 u3 => ?_⟩
        rw [eM' m' u1] at u2
        cases u2
        by_cases c : m' = 5
        · rw [if_pos c] at u3
          have := inj b 0 hb1 (by omega) u3
          by_cases c2 : m = 5
          · omega
          · rw [if_neg c2] at hb3
            omega
        · rw [if_neg c] at u3
          have := inj b (m' + 1) hb1 (by omega) u3
          by_cases c2 : m = 5
          · rw [if_pos c2] at hb3
            omega
          · rw [if_neg c2] at hb3
            omega
      · show cS1 t (if m = 5 then μ 0 else μ (m + 1)) j (serO (if 8 + 8 * m + j < 8 then _ else S (8 + 8 * m + j + 8))) ∧ rSl (s1.2.2.1 47) (8 + 8 * m + j) (if 8 + 8 * m + j < 8 then _ else S (8 + 8 * m + j + 8))
        rw [if_neg (by omega), if_neg (by omega)]
        have := ((h9 (m + 1) (by omega)).2 j hj).1
        rw [show 8 + 8 * (m + 1) + j = 8 + 8 * m + j + 8 by omega] at this
        exact ⟨this, r3 _ (by omega) (by omega)⟩
    obtain ⟨t', s', S', μ', u1, u2, u3, u4, u5, u6, u7, u8⟩ := mk_13 (N := N) (X := X) hN hi (by omega) hr
    refine ⟨t', s', S', 6, μ', _, u1, r1.trans u2, u3, lfr.tr (t1 := jI (jM t g') 0 9 (Int32.ofNat 5)) ⟨fun a f _ q => if_neg q, rfl, fun _ _ _ => rfl, fun _ _ _ => rfl, fun _ _ _ => rfl, Nat.le_refl _⟩ u4, u5, u6, Nat.le_trans (Nat.le_of_eq ?_) u7, mfr.tr (s1 := mI s1 88 5) ⟨fun q r => (if_neg r).trans (r4.1 q (fun z => z)), r4.2.1, r4.2.2.1, r4.2.2.2⟩ u8⟩
    unfold gA
    have hO : ∀ o, gO (jI (jM t g') 0 9 (Int32.ofNat 5)) o = gO t o := fun o => by cases o <;> rfl
    show gS t σ0 + (0 + gO t (kM t 0) + gO t (kM t 1) + gO t (kM t 2) + gO t (kM t 3) + gO t (kM t 4) + gO t (kM t 5)) = gS t σ0 + (0 + gO _ (kM (jI (jM t g') 0 9 (Int32.ofNat 5)) 0) + gO _ (kM (jI (jM t g') 0 9 (Int32.ofNat 5)) 1) + gO _ (kM (jI (jM t g') 0 9 (Int32.ofNat 5)) 2) + gO _ (kM (jI (jM t g') 0 9 (Int32.ofNat 5)) 3) + gO _ (kM (jI (jM t g') 0 9 (Int32.ofNat 5)) 4) + gO _ (kM (jI (jM t g') 0 9 (Int32.ofNat 5)) 5))
    rw [hO, hO, hO, hO, hO, hO, eM' 0 (by omega), eM' 1 (by omega), eM' 2 (by omega), eM' 3 (by omega), eM' 4 (by omega), eM' 5 (by omega), (h9 0 (by omega)).1, (h9 1 (by omega)).1, (h9 2 (by omega)).1, (h9 3 (by omega)).1, (h9 4 (by omega)).1, (h9 5 (by omega)).1]
    show gS t σ0 + (0 + gS t (μ 0) + gS t (μ 1) + gS t (μ 2) + gS t (μ 3) + gS t (μ 4) + gS t (μ 5)) = gS t σ0 + (0 + gS t (μ 1) + gS t (μ 2) + gS t (μ 3) + gS t (μ 4) + gS t (μ 5) + gS t (μ 0))
    omega
  · have e00 : ¬ Int32.ofNat k = 6 := fun q => e0 ((i32eq (b := 6) (by omega) (by decide)).mp q)
    rw [if_pos e00, if_pos e00]
    obtain ⟨t', s', S', μ', u1, u2, u3, u4, u5, u6, u7, u8⟩ := mk_13 (N := N) (X := X) hN h (by omega) hr
    exact ⟨t', s', S', k + 1, μ', _, u1, u2, u3, u4, u5, u6, u7, u8⟩
end PO
