/-! ===== PURE: same (the class's) ===== -/
section SX
variable {N : Nat} {X : Nat → Option zz_C} {t : cS} {σ j j' : Nat} {ξ η : List Int32}
theorem c_al0 (h0 : cS0 t σ) (hj : j < 8) (f : Nat) (b x4 : Int32) : cf_27_L1 N X (f + 1) 0 σ (Int32.ofNat j) b 0 x4 t = some (t, .inl (some (.int 0))) := by
  obtain ⟨g1, g2, g3⟩ := h0
  show cf_27_24 N X (cf_27_L1 N X f) σ (Int32.ofNat j) b 0 x4 t = _
  unfold cf_27_24
  rw [if_pos g1, i32c (m := j) (by omega), if_pos (fun q => q.elim (i32n (by omega)) (by omega))]
  split
  · rfl
  · unfold cf_27_35
    rw [if_pos rfl]
    rfl
theorem c_alL (h0 : cS0 t σ) (hj : j < 8) (hj' : j' < 8) (h : cS1 t σ j ξ) (h' : cS1 t σ j' η) (hl : ξ.length = η.length) (h12 : ξ.length ≤ 1200) : ∀ (d i f : Nat), i + d = ξ.length → cf_27_L1 N X (f + (d + 1)) 0 σ (Int32.ofNat j) (Int32.ofNat j') 1 (Int32.ofNat i) t = some (t, .inl (some (.int (if ξ.drop i = η.drop i then 1 else 0)))) := by
  have h0' := h0
  obtain ⟨g1, g2, g3⟩ := h0'
  obtain ⟨h1, h2, h3⟩ := h
  obtain ⟨k1, k2, k3⟩ := h'
  intro d
  induction d with
  | zero =>
    intro i f hi
    have hi : i = ξ.length := hi
    subst hi
    rw [List.drop_length, hl, List.drop_length, if_pos rfl]
    show cf_27_24 N X (cf_27_L1 N X f) σ (Int32.ofNat j) (Int32.ofNat j') 1 (Int32.ofNat η.length) t = _
    unfold cf_27_24
    rw [if_pos g1, i32c (m := j) (by omega), if_pos (fun q => q.elim (i32n (by omega)) (by omega)), h1, if_pos ((i32le (by omega) (by omega)).mpr (by omega))]
    rfl
  | succ d ih =>
    intro i f hi
    have hi' : i < ξ.length := by omega
    show cf_27_24 N X (cf_27_L1 N X (f + (d + 1))) σ (Int32.ofNat j) (Int32.ofNat j') 1 (Int32.ofNat i) t = _
    unfold cf_27_24
    rw [if_pos g1, i32c (m := j) (by omega), if_pos (fun q => q.elim (i32n (by omega)) (by omega)), h1, if_neg (fun q => by have := (i32le (by omega) (by omega)).mp q; omega)]
    unfold cf_27_35
    rw [if_neg (by decide)]
    unfold cf_27_39
    rw [if_pos g1, i32c (m := j) (by omega), if_pos (fun q => q.elim (i32n (by omega)) (by omega)), i32c (m := i) (by omega), if_pos (fun q => q.elim (i32n (by omega)) (by omega)), i32c (m := j') (by omega), if_pos (fun q => q.elim (i32n (by omega)) (by omega)), if_pos (fun q => q.elim (i32n (by omega)) (by omega)), h3 i hi', k3 i (by omega), List.drop_eq_getElem_cons hi', List.drop_eq_getElem_cons (show i < η.length by omega)]
    by_cases e : ξ[i] = η[i]'(by omega)
    · rw [if_neg (fun q => q e)]
      show cf_27_L1 N X (f + (d + 1)) 0 σ (Int32.ofNat j) (Int32.ofNat j') 1 (Int32.ofNat i + 1) t = _
      rw [show Int32.ofNat i + 1 = Int32.ofNat (i + 1) from i32al, ih (i + 1) f (by omega), e]
      by_cases c : ξ.drop (i + 1) = η.drop (i + 1)
      · rw [if_pos c, if_pos (by rw [c])]
      · rw [if_neg c, if_neg (fun q => c (List.cons.inj q).2)]
    · rw [if_pos e, if_neg (fun q => e (List.cons.inj q).1)]
      exact c_al0 h0 hj (f + d) _ _
theorem c_alike (hN : 2000 ≤ N) (h0 : cS0 t σ) (hj : j < 8) (hj' : j' < 8) (h : cS1 t σ j ξ) (h' : cS1 t σ j' η) (h12 : ξ.length ≤ 1200) (h12' : η.length ≤ 1200) : cf_27 N X σ (Int32.ofNat j) (Int32.ofNat j') t = some (t, .inl (some (.int (if ξ = η then 1 else 0)))) := by
  have h0' := h0
  obtain ⟨g1, g2, g3⟩ := h0'
  have a1 := h.1
  have a2 := h'.1
  unfold cf_27 cf_27_0
  rw [if_pos g1, i32c (m := j) (by omega), if_pos (fun q => q.elim (i32n (by omega)) (by omega)), i32c (m := j') (by omega), if_pos (fun q => q.elim (i32n (by omega)) (by omega)), a1, a2]
  by_cases c : ξ.length = η.length
  · rw [if_neg (fun q => q (by rw [c]))]
    have e := c_alL (N := N) (X := X) h0 hj hj' h h' c h12 ξ.length 0 (N - (ξ.length + 1)) (Nat.zero_add _)
    rw [show N - (ξ.length + 1) + (ξ.length + 1) = N by omega, List.drop_zero, List.drop_zero] at e
    exact e
  · rw [if_pos (fun q => c ((i32eq (by omega) (by omega)).mp q)), if_neg (fun q => c (by rw [q]))]
    have e := c_al0 (N := N) (X := X) h0 hj (N - 1) (Int32.ofNat j') 0
    rw [show N - 1 + 1 = N by omega] at e
    exact e
end SX
