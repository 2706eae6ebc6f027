/-! ===== PURE: copy, mark, back ===== -/
section PM
variable {N : Nat} {X : Nat → Option zz_C} {t t' : cS} {s s' : mS} {σ σ1 σ' σ0 k j i : Nat} {μ : Nat → Nat} {S : Nat → Option (Th 4)} {ξ : List Int32}
theorem fSh.o0 (f : fSh σ j t t') (hj : j < 8) (hn : σ' ≠ σ) (q : cS0 t σ') : cS0 t' σ' := by
  obtain ⟨⟨f1, f2, f3, f4, f5, f6, f7, f8⟩, g1, g2⟩ := f
  exact ⟨by rw [f7]; exact q.1, by rw [f4 _ (by omega) (by omega)]; exact q.2.1, fun i hi => by rw [f4 _ (by omega) (by omega)]; exact q.2.2 i hi⟩
theorem fSh.o1 (f : fSh σ j t t') (hj : j < 8) (hn : σ' ≠ σ) (hi : i < 8) (q : cS1 t σ' i ξ) : cS1 t' σ' i ξ := by
  obtain ⟨⟨f1, f2, f3, f4, f5, f6, f7, f8⟩, g1, g2⟩ := f
  exact ⟨by rw [f4 _ (by omega) (by omega)]; exact q.1, by rw [f4 _ (by omega) (by omega)]; exact q.2.1, fun y hy => by rw [f4 _ (by omega) (by omega)]; exact q.2.2 y hy⟩
theorem fSh.i1 (f : fSh σ j t t') (hj : j < 8) (hn : i ≠ j) (hi : i < 8) (q : cS1 t σ i ξ) : cS1 t' σ i ξ := by
  obtain ⟨⟨f1, f2, f3, f4, f5, f6, f7, f8⟩, g1, g2⟩ := f
  exact ⟨by rw [g1 i hn]; exact q.1, by rw [f4 _ (by omega) (by omega)]; exact q.2.1, fun y hy => by rw [f4 _ (by omega) (by omega)]; exact q.2.2 y hy⟩
/-- one shelf is copied, its row being long enough -/
theorem c_cp38 (h0 : cS0 t σ0) (h1 : cS0 t σ1) (hne : σ0 ≠ σ1) (hj : j < 8) (hs : cS1 t σ0 j ξ) (hl : ξ.length ≤ 1200) (hr : ξ.length ≤ (kA t (2000000 + 20 * σ1 + 1 + 1 + j)).1) : ∃ t', (∀ rc, cf_29_38 N X rc σ1 σ0 (Int32.ofNat j) t = rc 0 σ1 σ0 (Int32.ofNat (j + 1)) t') ∧ cS0 t' σ1 ∧ cS1 t' σ1 j ξ ∧ fSh σ1 j t t' ∧ kN t' = kN t ∧ kQ t' = kQ t ∧ (kA t' (2000000 + 20 * σ1 + 1 + 1 + j)).1 = (kA t (2000000 + 20 * σ1 + 1 + 1 + j)).1 := by
  obtain ⟨g1, g2, g3⟩ := h0
  obtain ⟨k1, k2, k3⟩ := h1
  obtain ⟨s1, s2, s3⟩ := hs
  have e0 : Int32.toNatClampNeg (0 : Int32) = 0 := rfl
  have ej : ¬ (Int32.ofNat j < 0 ∨ 8 ≤ j) := fun q => q.elim (i32n (by omega)) (by omega)
  have eL : ∀ g, kA (jA t (2000000 + 20 * σ1 + 1 + 1 + j) g) (2000000 + 20 * σ1 + 10) = kA t (2000000 + 20 * σ1 + 10) := fun g => if_neg (by omega)
  have eL0 : ∀ g, kA (jA t (2000000 + 20 * σ1 + 1 + 1 + j) g) (2000000 + 20 * σ0 + 10) = kA t (2000000 + 20 * σ0 + 10) := fun g => if_neg (by omega)
  generalize hg : va_cpy (kA t (2000000 + 20 * σ0 + 1 + 1 + j)).2 (kA t (2000000 + 20 * σ1 + 1 + 1 + j)).2 0 0 ξ.length = g
  have eg : ∀ i, (hi : i < ξ.length) → g i = ξ[i] := fun i hi => by
    rw [← hg]
    show (if _ then _ else _) = _
    rw [if_pos ⟨Nat.zero_le _, by omega⟩, Nat.sub_zero, Nat.zero_add]
    exact s3 i hi
  refine ⟨jA (jA t (2000000 + 20 * σ1 + 1 + 1 + j) g) (2000000 + 20 * σ1 + 10) (upd (kA t (2000000 + 20 * σ1 + 10)).2 j (Int32.ofNat ξ.length)), fun rc => ?_, ⟨k1, ?_, fun i hi => ?_⟩, ⟨?_, ?_, fun i hi => ?_⟩, ⟨⟨fun _ _ _ => rfl, rfl, rfl, fun k q r => ?_, fun _ _ _ => rfl, rfl, rfl, Nat.le_refl _⟩, fun i hi => ?_, ?_⟩, rfl, rfl, ?_⟩
  · unfold cf_29_38
    rw [if_pos g1, i32c (m := j) (by omega), if_pos ej, if_pos k1, if_pos (fun q => q.elim (i32n (by omega)) (by omega)), s1, e0, i32c (m := ξ.length) (by omega), if_pos ⟨by decide, by decide, i32n (by omega), by omega, by omega⟩, hg, eL, eL0, if_pos (fun q => q.elim (i32n (by omega)) (by omega)), if_pos (fun q => q.elim (i32n (by omega)) (by omega)), s1, show Int32.ofNat j + 1 = Int32.ofNat (j + 1) from i32al]
  · rw [kA_jA, if_pos rfl, eL]
    exact k2
  · rw [kA_jA, if_neg (by omega), kA_jA]
    by_cases e : i = j
    · subst e
      rw [if_pos rfl]
      exact k3 i hi
    · rw [if_neg (by omega)]
      exact k3 i hi
  · rw [kA_jA, if_pos rfl]
    show upd _ j _ j = _
    unfold upd
    rw [if_pos rfl]
  · rw [kA_jA, if_neg (by omega), kA_jA, if_pos rfl]
    exact hr
  · rw [kA_jA, if_neg (by omega), kA_jA, if_pos rfl]
    exact eg i hi
  · rw [kA_jA, if_neg (fun z => q (Or.inr z)), kA_jA, if_neg (fun z => q (Or.inl z))]
  · rw [kA_jA, if_pos rfl]
    show upd _ j _ i = _
    unfold upd
    rw [if_neg hi]
  · rw [kA_jA, if_pos rfl, eL]
  · rw [kA_jA, if_neg (by omega), kA_jA, if_pos rfl]
theorem c_cp1 (h0 : cS0 t σ0) (h1 : cS0 t σ1) (hne : σ0 ≠ σ1) (hj : j < 8) (hs : cS1 t σ0 j ξ) (hl : ξ.length ≤ 1200) (hN : kN t + 1 < zz_out) : ∃ t', (∀ rc, cf_29_8 N X rc σ1 σ0 (Int32.ofNat j) t = rc 0 σ1 σ0 (Int32.ofNat (j + 1)) t') ∧ cS0 t' σ1 ∧ cS1 t' σ1 j ξ ∧ fSh σ1 j t t' ∧ kN t' ≤ kN t + 1 ∧ kQ t' ≤ kQ t + 1200 ∧ (kA t (2000000 + 20 * σ1 + 1 + 1 + j)).1 ≤ (kA t' (2000000 + 20 * σ1 + 1 + 1 + j)).1 := by
  have ej : ¬ (Int32.ofNat j < 0 ∨ 8 ≤ j) := fun q => q.elim (i32n (by omega)) (by omega)
  have h0' := h0
  have h1' := h1
  have hs' := hs
  obtain ⟨g1, g2, g3⟩ := h0'
  obtain ⟨k1, k2, k3⟩ := h1'
  obtain ⟨s1, s2, s3⟩ := hs'
  have k3j := k3 j hj
  have e8 : ∀ rc, cf_29_8 N X rc σ1 σ0 (Int32.ofNat j) t = if Int32.ofNat ξ.length ≤ Int32.ofNat (kA t (2000000 + 20 * σ1 + 1 + 1 + j)).1 then cf_29_38 N X rc σ1 σ0 (Int32.ofNat j) t else cf_29_24 N X rc σ1 σ0 (Int32.ofNat j) t := fun rc => by
    unfold cf_29_8
    rw [if_pos k1, i32c (m := j) (by omega), if_pos ej, if_pos g1, if_pos (fun q => q.elim (i32n (by omega)) (by omega)), s1]
  by_cases c : ξ.length ≤ (kA t (2000000 + 20 * σ1 + 1 + 1 + j)).1
  · obtain ⟨t', q1, q2, q3, q4, q5, q6, q7⟩ := c_cp38 (N := N) (X := X) h0 h1 hne hj hs hl c
    exact ⟨t', fun rc => by rw [e8, if_pos ((i32le (by omega) (by omega)).mpr c)]; exact q1 rc, q2, q3, q4, by omega, by omega, by omega⟩
  · generalize ht1 : jMv (jNI t 1 ξ.length (fun _ => 0)) (2000000 + 20 * σ1 + 1 + 1 + j) = t1
    have eR : kA t1 (2000000 + 20 * σ1 + 1 + 1 + j) = (ξ.length, fun _ => 0) := by
      rw [← ht1, kA_jMv, if_pos rfl]
      rfl
    have eO : ∀ k, k ≠ 2000000 + 20 * σ1 + 1 + 1 + j → k ≠ 111 → kA t1 k = kA t k := fun k q r => by rw [← ht1, kA_jMv, if_neg q, kA_jNI, if_neg r]
    have f : fSh σ1 j t t1 := ⟨⟨fun _ _ _ => by rw [← ht1]; rfl, by rw [← ht1]; rfl, by rw [← ht1]; rfl, fun k q r => eO k (fun z => q (Or.inl z)) r, fun k q r => by rw [← ht1, kB_jMv, if_neg q]; rfl, by rw [← ht1]; rfl, by rw [← ht1]; rfl, by rw [← ht1]; exact Nat.le_succ _⟩, fun i _ => by rw [eO _ (by omega) (by omega)], by rw [eO _ (by omega) (by omega)]⟩
    have i1 : cS0 t1 σ1 := ⟨by rw [← ht1]; exact k1, by rw [eO _ (by omega) (by omega)]; exact k2, fun i hi => by
      by_cases e : i = j
      · subst e
        rw [eR]
        show ξ.length ≤ 3000
        omega
      · rw [eO _ (by omega) (by omega)]
        exact k3 i hi⟩
    obtain ⟨t', q1, q2, q3, q4, q5, q6, q7⟩ := c_cp38 (N := N) (X := X) (f.o0 hj hne h0) i1 hne hj (f.o1 hj hne hj hs) hl (by rw [eR]; exact Nat.le_refl _)
    have eN : kN t1 = kN t + 1 := by rw [← ht1]; rfl
    have eQ : kQ t1 = kQ t + ξ.length := by rw [← ht1]; rfl
    rw [eR] at q7
    have q7 : (kA t' (2000000 + 20 * σ1 + 1 + 1 + j)).1 = ξ.length := q7
    refine ⟨t', fun rc => ?_, q2, q3, f.tr q4, by omega, by omega, by omega⟩
    rw [e8, if_neg (fun q => c ((i32le (by omega) (by omega)).mp q))]
    unfold cf_29_24
    rw [if_pos k1, if_pos g1, i32c (m := j) (by omega), if_pos (fun q => q.elim (i32n (by omega)) (by omega)), s1, i32c (m := ξ.length) (by omega), if_pos ⟨i32n (by omega), by omega, hN⟩, if_pos ej, ht1]
    exact q1 rc
/-- what copying to σ may change -/
abbrev fCp (σ : Nat) (t t' : cS) : Prop := kfr (fun _ _ => False) (fun k => 2000000 + 20 * σ + 2 ≤ k ∧ k ≤ 2000000 + 20 * σ + 10) (fun k => 2000000 + 20 * σ + 2 ≤ k ∧ k ≤ 2000000 + 20 * σ + 10) t t' ∧ kN t' ≤ kN t + 8 ∧ kQ t' ≤ kQ t + 9600 ∧ ∀ j, j < 8 → (kA t (2000000 + 20 * σ + 1 + 1 + j)).1 ≤ (kA t' (2000000 + 20 * σ + 1 + 1 + j)).1
set_option maxRecDepth 8000 in
theorem c_copy (hne : σ0 ≠ σ1) {Ξ : Nat → List Int32} (hl : ∀ j, j < 8 → (Ξ j).length ≤ 1200) {n0 q0 : Nat} (hN : n0 + 8 < zz_out) : ∀ (d i : Nat) (t : cS), i + d = 8 → cS0 t σ0 → cS0 t σ1 → (∀ j, j < 8 → cS1 t σ0 j (Ξ j)) → (∀ j, j < i → cS1 t σ1 j (Ξ j)) → kN t ≤ n0 + i → kQ t ≤ q0 + 1200 * i → ∃ t', (∀ f, cf_29_L1 N X (f + (d + 1)) 0 σ1 σ0 (Int32.ofNat i) t = some (t', .inl none)) ∧ cS0 t' σ1 ∧ (∀ j, j < 8 → cS1 t' σ1 j (Ξ j)) ∧ kfr (fun _ _ => False) (fun k => 2000000 + 20 * σ1 + 2 ≤ k ∧ k ≤ 2000000 + 20 * σ1 + 10) (fun k => 2000000 + 20 * σ1 + 2 ≤ k ∧ k ≤ 2000000 + 20 * σ1 + 10) t t' ∧ kN t' ≤ n0 + 8 ∧ kQ t' ≤ q0 + 9600 ∧ ∀ j, j < 8 → (kA t (2000000 + 20 * σ1 + 1 + 1 + j)).1 ≤ (kA t' (2000000 + 20 * σ1 + 1 + 1 + j)).1 := by
  intro d
  induction d with
  | zero =>
    intro i t hi h0 h1 hs hd hn hq
    have hi : i = 8 := hi
    subst hi
    refine ⟨t, fun f => ?_, h1, hd, kfr.rf, hn, hq, fun _ _ => Nat.le_refl _⟩
    show cf_29_2 N X (cf_29_L1 N X f) σ1 σ0 (Int32.ofNat 8) t = _
    unfold cf_29_2
    rw [if_pos (show (8 : Int32) ≤ Int32.ofNat 8 by decide)]
    rfl
  | succ d ih =>
    intro i t hi h0 h1 hs hd hn hq
    obtain ⟨t1, a1, a2, a3, a4, a5, a6, a7⟩ := c_cp1 (N := N) (X := X) h0 h1 hne (by omega) (hs i (by omega)) (hl i (by omega)) (by omega)
    obtain ⟨t', b1, b2, b3, b4, b5, b6, b7⟩ := ih (i + 1) t1 (by omega) (a4.o0 (by omega) hne h0) a2 (fun j hj => a4.o1 (by omega) hne hj (hs j hj)) (fun j hj => by
      by_cases e : j = i
      · subst e
        exact a3
      · exact a4.i1 (by omega) e (by omega) (hd j (by omega))) (by omega) (by
        generalize kQ t1 = z1 at a6 ⊢
        generalize kQ t = z0 at a6 hq
        clear a1 a2 a3 a4 a7 hs hd h0 h1
        omega)
    refine ⟨t', fun f => ?_, b2, b3, ?_, b5, b6, fun j hj => ?_⟩
    · show cf_29_2 N X (cf_29_L1 N X (f + (d + 1))) σ1 σ0 (Int32.ofNat i) t = _
      unfold cf_29_2
      rw [if_neg (show ¬ (8 : Int32) ≤ Int32.ofNat i from fun q => by have := (i32le (a := 8) (by decide) (by omega)).mp q; omega), a1]
      exact b1 f
    · obtain ⟨⟨c1, c2, c3, c4, c5, c6, c7, c8⟩, -, -⟩ := a4
      exact kfr.tr ⟨c1, c2, c3, fun k q r => c4 k (fun z => q (by omega)) r, fun k q r => c5 k (fun z => q (by omega)) r, c6, c7, c8⟩ b4
    · refine Nat.le_trans ?_ (b7 j hj)
      by_cases e : j = i
      · subst e
        exact a7
      · rw [a4.1.2.2.2.1 (2000000 + 20 * σ1 + 1 + 1 + j) (fun z => by omega) (by omega)]
        exact Nat.le_refl _
/-- the reference's copy -/
theorem r_copy {k k' : Nat} {x : Option (Th 4)} (hN : 8000 ≤ N) (hk : k < 64) (hk' : k' < 64) (hne : k ≠ k') (hx : ∀ y, x = some y → wfT 4 y) (H : rSl (s.2.2.1 47) k x) : ∃ s', mf_84 N (Int32.ofNat (2410 * k)) (Int32.ofNat (2410 * k')) s = some (s', none) ∧ rSl (s'.2.2.1 47) k' x ∧ lyF (2410 * k') s s' := by
  have e1 : Int32.ofNat (2410 * k) + 1 = Int32.ofNat (2410 * k + 1) := i32al
  have e2 : Int32.ofNat (2410 * k') + 1 = Int32.ofNat (2410 * k' + 1) := i32al
  have hd := H.hd
  unfold mf_84 mf_84_0
  rw [if_pos (gd rfl (by omega) (by decide)), i32c (m := 2410 * k) (by omega), hd]
  cases x with
  | none =>
    rw [if_neg (fun q => q rfl)]
    unfold mf_84_11 mf_84_29
    rw [if_pos (gd rfl (by omega) (by decide)), i32c (m := 2410 * k) (by omega), hd, if_pos (show ¬ kdO none = 0 by decide)]
    unfold mf_84_49 mf_84_50 mf_75 mf_75_0
    rw [if_neg (fun q => q rfl)]
    unfold mf_75_5
    rw [if_pos (gd rfl (by omega) (by decide)), i32c (m := 2410 * k') (by omega)]
    refine ⟨_, rfl, if_pos rfl, ⟨fun _ _ => rfl, fun _ _ => rfl, fun q r => if_neg (fun z => r (Or.inl z)), fun _ _ => rfl⟩, fun y hy => ?_⟩
    show upd _ (2410 * k') (-1) y = _
    unfold upd
    rw [if_neg (by omega)]
  | some x =>
    have hv := vw_kd ⟨4, x⟩
    have hi := vw_int ⟨4, x⟩
    have hd : s.2.2.1 47 (2410 * k) = kdT 4 x := hd
    cases hz : intT 4 x with
    | some z =>
      have hkd : kdT 4 x = 0 := by
        obtain ⟨l, hl⟩ := ser_kd 4 x
        rw [int_ser hz] at hl
        exact (List.cons.inj hl).1.symm
      unfold rSl at H
      dsimp only at H
      rw [hz] at H
      obtain ⟨H1, H2⟩ := H
      rw [if_pos (show ¬ kdO (some x) = -1 by show ¬ kdT 4 x = -1; rw [hkd]; decide)]
      unfold mf_84_15
      rw [if_pos (gd rfl (by omega) (by decide)), i32c (m := 2410 * k) (by omega), H1, if_neg (fun q => q rfl)]
      unfold mf_84_24 mf_84_29
      rw [if_pos (gd rfl (by omega) (by decide)), i32c (m := 2410 * k) (by omega), H1, if_neg (fun q => q rfl)]
      unfold mf_84_38
      rw [if_pos (gd e1 (by omega) (by decide)), cl e1 (by omega), H2]
      unfold mf_84_50 mf_75 mf_75_0
      rw [if_pos (by decide)]
      unfold mf_75_13
      rw [if_neg (by decide)]
      unfold mf_75_17
      rw [if_pos (gd rfl (by omega) (by decide)), if_pos (gd e2 (by omega) (by decide)), cl e2 (by omega), i32c (m := 2410 * k') (by omega)]
      refine ⟨_, rfl, ?_, ⟨fun _ _ => rfl, fun _ _ => rfl, fun q r => (if_neg (fun z => r (Or.inl z))).trans (if_neg (fun z => r (Or.inl z))), fun _ _ => rfl⟩, fun y hy => ?_⟩
      · unfold rSl
        dsimp only
        rw [hz]
        refine ⟨?_, ?_⟩
        · show upd (upd _ (2410 * k') 0) (2410 * k' + 1) z (2410 * k') = 0
          unfold upd
          rw [if_neg (by omega), if_pos rfl]
        · show upd (upd _ (2410 * k') 0) (2410 * k' + 1) z (2410 * k' + 1) = z
          unfold upd
          rw [if_pos rfl]
      · show upd (upd _ (2410 * k') 0) (2410 * k' + 1) z y = _
        unfold upd
        rw [if_neg (by omega), if_neg (by omega)]
    | none =>
      unfold rSl at H
      dsimp only at H
      rw [hz] at H
      have H : LayN (s.2.2.1 47) (Rk k) (2410 * k) ⟨4, x⟩ := H
      have hkd : ¬ kdT 4 x = -1 ∧ ¬ kdT 4 x = 0 := by
        have hi : intT 4 x = intV (vw ⟨4, x⟩) := hi
        have hv : kdT 4 x = kdV (vw ⟨4, x⟩) := hv
        rw [hz] at hi
        rw [hv]
        generalize vw ⟨4, x⟩ = v at hi
        obtain z | r | q | l := v
        · cases hi
        · exact ⟨by show ¬ (1 : Int32) = -1; decide, by show ¬ (1 : Int32) = 0; decide⟩
        · exact ⟨by show ¬ (2 : Int32) = -1; decide, by show ¬ (2 : Int32) = 0; decide⟩
        · exact ⟨by show ¬ (3 : Int32) = -1; decide, by show ¬ (3 : Int32) = 0; decide⟩
      rw [if_pos (show ¬ kdO (some x) = -1 from hkd.1)]
      unfold mf_84_15
      rw [if_pos (gd rfl (by omega) (by decide)), i32c (m := 2410 * k) (by omega), hd, if_pos hkd.2]
      unfold mf_84_28 mf_84_29
      rw [if_pos (gd rfl (by omega) (by decide)), i32c (m := 2410 * k) (by omega), hd, if_pos hkd.2]
      unfold mf_84_49 mf_84_50
      obtain ⟨s', q1, q2, q3⟩ := r_lay (N := N) (R := Rk k) (b0 := 2410 * k') hN (fun y hy => ⟨by have := hy.2; omega, fun z => by obtain ⟨u1, u2⟩ := hy; omega⟩) (by omega) (bulk_wf 4 x (hx x rfl)) H
      rw [q1]
      refine ⟨s', rfl, ?_, q3⟩
      unfold rSl
      dsimp only
      rw [hz]
      exact q2
end PM
