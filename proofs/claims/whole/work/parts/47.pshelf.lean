/-! ===== PURE: what shelves have: numbers (the class) ===== -/
/-- shelf j of the Shelves σ has these numbers -/
def cS1 (t : cS) (σ j : Nat) (ξ : List Int32) : Prop := (kA t (2000000 + 20 * σ + 10)).2 j = Int32.ofNat ξ.length ∧ ξ.length ≤ (kA t (2000000 + 20 * σ + 1 + 1 + j)).1 ∧ ∀ i (hi : i < ξ.length), (kA t (2000000 + 20 * σ + 1 + 1 + j)).2 i = ξ[i]
/-- the Shelves σ are there, their rows are not too long -/
def cS0 (t : cS) (σ : Nat) : Prop := kH t σ = true ∧ (kA t (2000000 + 20 * σ + 10)).1 = 8 ∧ ∀ j, j < 8 → (kA t (2000000 + 20 * σ + 1 + 1 + j)).1 ≤ 3000
/-- what putting numbers on shelf j may change -/
abbrev fSh (σ j : Nat) (t t' : cS) : Prop := kfr (fun _ _ => False) (fun k => k = 2000000 + 20 * σ + 1 + 1 + j ∨ k = 2000000 + 20 * σ + 10) (fun k => k = 2000000 + 20 * σ + 1 + 1 + j) t t' ∧ (∀ i, i ≠ j → (kA t' (2000000 + 20 * σ + 10)).2 i = (kA t (2000000 + 20 * σ + 10)).2 i) ∧ (kA t' (2000000 + 20 * σ + 10)).1 = (kA t (2000000 + 20 * σ + 10)).1
/-- the room that a change of shelf j takes: what is new is paid for by the row's length -/
abbrev rSh (σ j c : Nat) (t t' : cS) : Prop := kN t' ≤ kN t + c ∧ kQ t' + 2 * (kA t (2000000 + 20 * σ + 1 + 1 + j)).1 ≤ kQ t + 2 * (kA t' (2000000 + 20 * σ + 1 + 1 + j)).1 ∧ (kA t (2000000 + 20 * σ + 1 + 1 + j)).1 ≤ (kA t' (2000000 + 20 * σ + 1 + 1 + j)).1
section PS
variable {N : Nat} {X : Nat → Option zz_C} {t t' t1 t2 : cS} {s : mS} {σ j : Nat} {ξ : List Int32}
theorem fSh.tr (h : fSh σ j t t1) (g : fSh σ j t1 t2) : fSh σ j t t2 := ⟨h.1.tr g.1, fun i hi => (g.2.1 i hi).trans (h.2.1 i hi), g.2.2.trans h.2.2⟩
theorem fSh.rf : fSh σ j t t := ⟨kfr.rf, fun _ _ => rfl, rfl⟩
theorem rSh.tr {a b : Nat} (h : rSh σ j a t t1) (g : rSh σ j b t1 t2) : rSh σ j (a + b) t t2 := by
  obtain ⟨a1, a2, a3⟩ := h
  obtain ⟨b1, b2, b3⟩ := g
  exact ⟨by omega, by omega, by omega⟩
theorem c_put38 (h0 : cS0 t σ) (hj : j < 8) (h : cS1 t σ j ξ) (hlt : ξ.length < (kA t (2000000 + 20 * σ + 1 + 1 + j)).1) (x : Int32) : ∃ t', cf_25_38 N X σ (Int32.ofNat j) x (Int32.ofNat ξ.length) t = some (t', .inl none) ∧ cS0 t' σ ∧ cS1 t' σ j (ξ ++ [x]) ∧ fSh σ j t t' ∧ rSh σ j 0 t t' ∧ (kA t' (2000000 + 20 * σ + 1 + 1 + j)).1 = (kA t (2000000 + 20 * σ + 1 + 1 + j)).1 := by
  obtain ⟨g1, g2, g3⟩ := h0
  obtain ⟨h1, h2, h3⟩ := h
  have g3j := g3 j hj
  have eL : ∀ g, kA (jA t (2000000 + 20 * σ + 1 + 1 + j) g) (2000000 + 20 * σ + 10) = kA t (2000000 + 20 * σ + 10) := fun g => if_neg (by omega)
  refine ⟨jA (jA t (2000000 + 20 * σ + 1 + 1 + j) (upd (kA t (2000000 + 20 * σ + 1 + 1 + j)).2 ξ.length x)) (2000000 + 20 * σ + 10) (upd (kA t (2000000 + 20 * σ + 10)).2 j (Int32.ofNat ξ.length + 1)), ?_, ?_, ?_, ?_, ?_, ?_⟩
  · unfold cf_25_38
    rw [if_pos g1, i32c (m := j) (by omega), if_pos (fun q => q.elim (i32n (by omega)) (by omega)), i32c (m := ξ.length) (by omega), if_pos (fun q => q.elim (i32n (by omega)) (by omega)), eL, if_pos (fun q => q.elim (i32n (by omega)) (by omega))]
  · refine ⟨g1, ?_, fun i hi => ?_⟩
    · rw [kA_jA, if_pos rfl, eL]
      exact g2
    · rw [kA_jA, if_neg (by omega), kA_jA]
      by_cases e : i = j
      · subst e
        rw [if_pos rfl]
        exact g3 i hi
      · rw [if_neg (by omega)]
        exact g3 i hi
  · refine ⟨?_, ?_, fun i hi => ?_⟩
    · rw [kA_jA, if_pos rfl]
      show upd _ j _ j = _
      unfold upd
      rw [if_pos rfl, List.length_append]
      exact i32add
    · rw [kA_jA, if_neg (by omega), kA_jA, if_pos rfl, List.length_append]
      exact hlt
    · rw [kA_jA, if_neg (by omega), kA_jA, if_pos rfl]
      show upd _ ξ.length x i = _
      unfold upd
      rw [List.length_append] at hi
      have hi : i < ξ.length + 1 := hi
      by_cases e : i = ξ.length
      · subst e
        rw [if_pos rfl, List.getElem_append_right (Nat.le_refl _)]
        simp
      · rw [if_neg e, List.getElem_append_left (by omega)]
        exact h3 i (by omega)
  · refine ⟨⟨fun _ _ _ => rfl, rfl, rfl, fun k q r => ?_, fun _ _ _ => rfl, rfl, rfl, Nat.le_refl _⟩, fun i hi => ?_, ?_⟩
    · rw [kA_jA, if_neg (fun z => q (Or.inr z)), kA_jA, if_neg (fun z => q (Or.inl z))]
    · rw [kA_jA, if_pos rfl]
      show upd _ j _ i = _
      unfold upd
      rw [if_neg hi]
    · rw [kA_jA, if_pos rfl, eL]
  · have e : (kA (jA (jA t (2000000 + 20 * σ + 1 + 1 + j) (upd (kA t (2000000 + 20 * σ + 1 + 1 + j)).2 ξ.length x)) (2000000 + 20 * σ + 10) (upd (kA t (2000000 + 20 * σ + 10)).2 j (Int32.ofNat ξ.length + 1))) (2000000 + 20 * σ + 1 + 1 + j)).1 = (kA t (2000000 + 20 * σ + 1 + 1 + j)).1 := by rw [kA_jA, if_neg (by omega), kA_jA, if_pos rfl]
    refine ⟨Nat.le_refl _, ?_, Nat.le_of_eq e.symm⟩
    rw [e]
    exact Nat.le_refl _
  · rw [kA_jA, if_neg (by omega), kA_jA, if_pos rfl]
/-- a number comes behind those of shelf j -/
theorem c_put (h0 : cS0 t σ) (hj : j < 8) (h : cS1 t σ j ξ) (hl : ξ.length ≤ 1400) (hr : kN t + 1 < zz_out) (x : Int32) : ∃ t', cf_25 N X σ (Int32.ofNat j) x t = some (t', .inl none) ∧ cS0 t' σ ∧ cS1 t' σ j (ξ ++ [x]) ∧ fSh σ j t t' ∧ rSh σ j 1 t t' := by
  have h0' := h0
  have h' := h
  obtain ⟨g1, g2, g3⟩ := h0'
  obtain ⟨h1, h2, h3⟩ := h'
  have g3j := g3 j hj
  unfold cf_25 cf_25_0
  rw [if_pos g1, i32c (m := j) (by omega), if_pos (fun q => q.elim (i32n (by omega)) (by omega)), if_pos (fun q => q.elim (i32n (by omega)) (by omega)), h1]
  by_cases c : ξ.length < (kA t (2000000 + 20 * σ + 1 + 1 + j)).1
  · rw [if_pos ((i32lt (by omega) (by omega)).mpr c)]
    obtain ⟨t', q1, q2, q3, q4, q5, -⟩ := c_put38 (N := N) (X := X) h0 hj h c x
    exact ⟨t', q1, q2, q3, q4, ⟨by omega, q5.2⟩⟩
  · rw [if_neg (fun q => c ((i32lt (by omega) (by omega)).mp q))]
    have hc : (kA t (2000000 + 20 * σ + 1 + 1 + j)).1 = ξ.length := by omega
    have e1 : (2 : Int32) * Int32.ofNat ξ.length + 4 = Int32.ofNat (2 * ξ.length + 4) := (congrArg (· + (4 : Int32)) (i32mul (a := 2) (b := ξ.length))).trans (i32add (b := 4))
    unfold cf_25_18
    rw [if_pos g1, i32c (m := j) (by omega), if_pos (fun q => q.elim (i32n (by omega)) (by omega)), e1, i32c (m := 2 * ξ.length + 4) (by omega), hc, if_pos ⟨i32n (by omega), by omega, by omega, fun q => by have := (i32eq (by omega) (by omega)).mp q; omega, hr⟩]
    have hm : Nat.min ξ.length (2 * ξ.length + 4) = ξ.length := by
      show min _ _ = _
      omega
    rw [hm]
    generalize ht1 : jMv (jNI t 1 (2 * ξ.length + 4) (kcp 0 (kA t (2000000 + 20 * σ + 1 + 1 + j)).2 ξ.length)) (2000000 + 20 * σ + 1 + 1 + j) = t1
    have eR : kA t1 (2000000 + 20 * σ + 1 + 1 + j) = (2 * ξ.length + 4, kcp 0 (kA t (2000000 + 20 * σ + 1 + 1 + j)).2 ξ.length) := by
      rw [← ht1, kA_jMv, if_pos rfl]
      rfl
    have eO : ∀ k, k ≠ 2000000 + 20 * σ + 1 + 1 + j → k ≠ 111 → kA t1 k = kA t k := fun k q r => by rw [← ht1, kA_jMv, if_neg q, kA_jNI, if_neg r]
    have i0 : cS0 t1 σ := ⟨by rw [← ht1]; exact g1, by rw [eO _ (by omega) (by omega)]; exact g2, fun i hi => by
      by_cases e : i = j
      · subst e
        rw [eR]
        show 2 * ξ.length + 4 ≤ 3000
        omega
      · rw [eO _ (by omega) (by omega)]
        exact g3 i hi⟩
    have i1 : cS1 t1 σ j ξ := ⟨by rw [eO _ (by omega) (by omega)]; exact h1, by rw [eR]; show _ ≤ 2 * ξ.length + 4; omega, fun i hi => by
      rw [eR]
      show kcp 0 _ ξ.length i = _
      unfold kcp va_cpy
      rw [if_pos ⟨Nat.zero_le _, by omega⟩, Nat.sub_zero, Nat.zero_add]
      exact h3 i hi⟩
    obtain ⟨t', q1, q2, q3, q4, q5, q6⟩ := c_put38 (N := N) (X := X) i0 hj i1 (by rw [eR]; show _ < 2 * ξ.length + 4; omega) x
    refine ⟨t', q1, q2, q3, fSh.tr ⟨⟨fun _ _ _ => by rw [← ht1]; rfl, by rw [← ht1]; rfl, by rw [← ht1]; rfl, fun k q r => eO k (fun z => q (Or.inl z)) r, fun k q r => by rw [← ht1, kB_jMv, if_neg q]; rfl, by rw [← ht1]; rfl, by rw [← ht1]; rfl, by rw [← ht1]; exact Nat.le_succ _⟩, fun i _ => by rw [eO _ (by omega) (by omega)], by rw [eO _ (by omega) (by omega)]⟩ q4, ?_⟩
    have eN : kN t1 = kN t + 1 := by rw [← ht1]; rfl
    have eQ : kQ t1 = kQ t + (2 * ξ.length + 4) := by rw [← ht1]; rfl
    obtain ⟨p1, p2, p3⟩ := q5
    rw [q6, eR] at p2 p3
    rw [eR] at q6
    refine ⟨by omega, ?_, ?_⟩
    · rw [q6]
      show kQ t' + 2 * _ ≤ kQ t + 2 * (2 * ξ.length + 4)
      have p2 : kQ t' + 2 * (2 * ξ.length + 4) ≤ kQ t1 + 2 * (2 * ξ.length + 4) := p2
      omega
    · rw [q6]
      show _ ≤ 2 * ξ.length + 4
      omega
end PS
