/-! ===== PURE: same ===== -/
section SAC
variable {N : Nat} {X : Nat → Option zz_C} {S : Nat → Option (Th 4)} {σ0 k : Nat} {μ : Nat → Nat} {t : cS} {s : mS}
/-- what a slot holds: nothing, an INT, or a THING that is none -/
theorem slot3 {g : Nat → Int32} {j : Nat} {o : Option (Th 4)} (H : rSl g j o) : (o = none ∧ g (2410 * j) = -1) ∨ (∃ x z, o = some x ∧ ser 4 x = [0, z] ∧ g (2410 * j) = 0 ∧ g (2410 * j + 1) = z) ∨ (∃ x, ∃ m : Nat, o = some x ∧ g (2410 * j) = Int32.ofNat (m + 1) ∧ m < 3 ∧ kdV (vw ⟨4, x⟩) = Int32.ofNat (m + 1) ∧ LayN g (Rk j) (2410 * j) ⟨4, x⟩) := by
  have hd := H.hd
  cases o with
  | none => exact Or.inl ⟨rfl, hd⟩
  | some x =>
    have hd : g (2410 * j) = kdT 4 x := hd
    unfold rSl at H
    dsimp only at H
    cases hz : intT 4 x with
    | some z =>
      rw [hz] at H
      exact Or.inr (Or.inl ⟨x, z, rfl, int_ser hz, H.1, H.2⟩)
    | none =>
      rw [hz] at H
      refine Or.inr (Or.inr ?_)
      have hv : intV (vw ⟨4, x⟩) = none := (vw_int ⟨4, x⟩).symm.trans hz
      have hk := vw_kd ⟨4, x⟩
      rw [show kdT 4 x = kdV (vw ⟨4, x⟩) from hk] at hd
      have key : ∃ m : Nat, m < 3 ∧ kdV (vw ⟨4, x⟩) = Int32.ofNat (m + 1) := by
        generalize vw ⟨4, x⟩ = V at hv
        obtain y | r | q | w := V
        · cases hv
        · exact ⟨0, by omega, rfl⟩
        · exact ⟨1, by omega, rfl⟩
        · exact ⟨2, by omega, rfl⟩
      obtain ⟨m, m1, m2⟩ := key
      exact ⟨x, m, rfl, hd.trans m2, m1, m2, H⟩
theorem p_same (hN : 170000 ≤ N) (h : iS S σ0 k μ t s) (a b : Int32) : ∃ s', ∃ v : Int32, cf_17 N X a b t = some (t, .inl (some (.int v))) ∧ mf_82 N a b s = some (s', some (.int v)) ∧ fD s s' := by
  obtain ⟨h1, h2, h3, h4, ⟨h5, h50⟩, h6, h7, -⟩ := h
  have h5a := h5.1
  rcases isSh a with ⟨j, hj, rfl, q1, q2⟩ | ⟨q1, q2⟩
  · rcases isSh b with ⟨j', hj', rfl, q3, q4⟩ | ⟨q3, q4⟩
    · have hc := c_alike (N := N) (X := X) (by omega) h5 hj hj' (h6 j hj).1 (h6 j' hj').1 (serO_len (fun y hy => h7 j y hy)) (serO_len (fun y hy => h7 j' y hy))
      have hcl : ∀ v : Int32, (if serO (S j) = serO (S j') then (1 : Int32) else 0) = v → cf_17 N X (Int32.ofNat j) (Int32.ofNat j') t = some (t, .inl (some (.int v))) := fun v e => by
        by_cases c : serO (S j) = serO (S j')
        · rw [if_pos c] at hc e
          rw [← e]
          have q1 := q1 N X t
          have q3 := q3 N X t
          repeat ((first | unfold cf_17 | unfold cf_17_0 | unfold cf_17_4 | unfold cf_17_7 | unfold cf_17_11 | unfold cf_17_14 | unfold cf_17_23 | unfold cf_17_26 | unfold cf_17_30 | unfold cf_17_31); try simp (disch := omega) only [ev_S, ev_C, ↓reduceIte, Nat.reduceEqDiff, Nat.reduceLeDiff, Nat.reduceAdd, Nat.reduceMul, Nat.reduceSub, reduceCtorEq, l32_0, l32_1, l32_2, l32_3, l32_4, l32_7, q1, q3, h2, h5a, hc])
        · rw [if_neg c] at hc e
          rw [← e]
          have q1 := q1 N X t
          have q3 := q3 N X t
          repeat ((first | unfold cf_17 | unfold cf_17_0 | unfold cf_17_4 | unfold cf_17_7 | unfold cf_17_11 | unfold cf_17_14 | unfold cf_17_23 | unfold cf_17_26 | unfold cf_17_30 | unfold cf_17_31); try simp (disch := omega) only [ev_S, ev_C, ↓reduceIte, Nat.reduceEqDiff, Nat.reduceLeDiff, Nat.reduceAdd, Nat.reduceMul, Nat.reduceSub, reduceCtorEq, l32_0, l32_1, l32_2, l32_3, l32_4, l32_7, q1, q3, h2, h5a, hc])
      have r1 := q2 N s
      have r3 := q4 N s
      have w1 := h7 j
      have w2 := h7 j'
      have hp : ∀ x : Th 4, ¬ ([] : List Int32) = ser 4 x := fun x q => by
        obtain ⟨l, e⟩ := ser_kd 4 x
        rw [e] at q
        cases q
      have hz : ∀ (x : Th 4) (m : Nat) (z : Int32), m < 3 → kdV (vw ⟨4, x⟩) = Int32.ofNat (m + 1) → ¬ [0, z] = ser 4 x := fun x m z hm hk q => by
        rw [show ser 4 x = _ from vw_ser ⟨4, x⟩] at q
        obtain ⟨l, e⟩ := serV_hd (vw ⟨4, x⟩)
        rw [e, hk] at q
        have := ofNat_inj (a := 0) (by omega) (by omega) (List.cons.inj q).1
        omega
      obtain ⟨e1, g1⟩ | ⟨x, z, e1, g0, g1, g2⟩ | ⟨x, m, e1, g1, g2, g3, g4⟩ := slot3 (h6 j hj).2
      · obtain ⟨e1', g1'⟩ | ⟨x', z', e1', g0', g1', g2'⟩ | ⟨x', m', e1', g1', g2', g3', g4'⟩ := slot3 (h6 j' hj').2
        · refine ⟨s, 1, hcl 1 (by rw [e1, e1']; rfl), ?_, mfr.rf⟩
          repeat ((first | unfold mf_82 | unfold mf_82_0 | unfold mf_82_4 | unfold mf_82_7 | unfold mf_82_11 | unfold mf_82_14 | unfold mf_82_16 | unfold mf_82_38 | unfold mf_82_48 | unfold mf_82_64 | unfold mf_82_73 | unfold mf_82_93 | unfold mf_82_97 | unfold mf_82_98 | unfold mf_82_99 | unfold mf_82_106); try simp (disch := omega) only [ev_S, ev_P, ↓reduceIte, Nat.reduceEqDiff, Nat.reduceLeDiff, Nat.reduceAdd, Nat.reduceMul, Nat.reduceSub, reduceCtorEq, l32_0, l32_1, l32_2, l32_3, l32_4, l32_47, l32_2410, l32_166300, r1, r3, g1, g1'])
        · refine ⟨s, 0, hcl 0 (by rw [e1, e1', if_neg]; exact hp x'), ?_, mfr.rf⟩
          repeat ((first | unfold mf_82 | unfold mf_82_0 | unfold mf_82_4 | unfold mf_82_7 | unfold mf_82_11 | unfold mf_82_14 | unfold mf_82_16 | unfold mf_82_38 | unfold mf_82_48 | unfold mf_82_64 | unfold mf_82_73 | unfold mf_82_93 | unfold mf_82_97 | unfold mf_82_98 | unfold mf_82_99 | unfold mf_82_106); try simp (disch := omega) only [ev_S, ev_P, ↓reduceIte, Nat.reduceEqDiff, Nat.reduceLeDiff, Nat.reduceAdd, Nat.reduceMul, Nat.reduceSub, reduceCtorEq, l32_0, l32_1, l32_2, l32_3, l32_4, l32_47, l32_2410, l32_166300, r1, r3, g1, g1'])
        · refine ⟨s, 0, hcl 0 (by rw [e1, e1', if_neg]; exact hp x'), ?_, mfr.rf⟩
          repeat ((first | unfold mf_82 | unfold mf_82_0 | unfold mf_82_4 | unfold mf_82_7 | unfold mf_82_11 | unfold mf_82_14 | unfold mf_82_16 | unfold mf_82_38 | unfold mf_82_48 | unfold mf_82_64 | unfold mf_82_73 | unfold mf_82_93 | unfold mf_82_97 | unfold mf_82_98 | unfold mf_82_99 | unfold mf_82_106); try simp (disch := omega) only [ev_S, ev_P, ↓reduceIte, Nat.reduceEqDiff, Nat.reduceLeDiff, Nat.reduceAdd, Nat.reduceMul, Nat.reduceSub, reduceCtorEq, l32_0, l32_1, l32_2, l32_3, l32_4, l32_47, l32_2410, l32_166300, r1, r3, g1, g1'])
      · obtain ⟨e1', g1'⟩ | ⟨x', z', e1', g0', g1', g2'⟩ | ⟨x', m', e1', g1', g2', g3', g4'⟩ := slot3 (h6 j' hj').2
        · refine ⟨s, 0, hcl 0 (by rw [e1, e1', if_neg]; exact fun q => hp x q.symm), ?_, mfr.rf⟩
          repeat ((first | unfold mf_82 | unfold mf_82_0 | unfold mf_82_4 | unfold mf_82_7 | unfold mf_82_11 | unfold mf_82_14 | unfold mf_82_16 | unfold mf_82_38 | unfold mf_82_48 | unfold mf_82_64 | unfold mf_82_73 | unfold mf_82_93 | unfold mf_82_97 | unfold mf_82_98 | unfold mf_82_99 | unfold mf_82_106); try simp (disch := omega) only [ev_S, ev_P, ↓reduceIte, Nat.reduceEqDiff, Nat.reduceLeDiff, Nat.reduceAdd, Nat.reduceMul, Nat.reduceSub, reduceCtorEq, l32_0, l32_1, l32_2, l32_3, l32_4, l32_47, l32_2410, l32_166300, r1, r3, g1, g1'])
        · by_cases c : z = z'
          · refine ⟨s, 1, hcl 1 (by rw [e1, e1', if_pos]; show ser 4 x = ser 4 x'; rw [g0, g0', c]), ?_, mfr.rf⟩
            repeat ((first | unfold mf_82 | unfold mf_82_0 | unfold mf_82_4 | unfold mf_82_7 | unfold mf_82_11 | unfold mf_82_14 | unfold mf_82_16 | unfold mf_82_38 | unfold mf_82_48 | unfold mf_82_64 | unfold mf_82_73 | unfold mf_82_93 | unfold mf_82_97 | unfold mf_82_98 | unfold mf_82_99 | unfold mf_82_106); try simp (disch := omega) only [ev_S, ev_P, ↓reduceIte, Nat.reduceEqDiff, Nat.reduceLeDiff, Nat.reduceAdd, Nat.reduceMul, Nat.reduceSub, reduceCtorEq, l32_0, l32_1, l32_2, l32_3, l32_4, l32_47, l32_2410, l32_166300, r1, r3, g1, g1', g2, g2', c])
          · refine ⟨s, 0, hcl 0 (by rw [e1, e1', if_neg]; show ¬ ser 4 x = ser 4 x'; rw [g0, g0']; exact fun q => c (List.cons.inj (List.cons.inj q).2).1), ?_, mfr.rf⟩
            repeat ((first | unfold mf_82 | unfold mf_82_0 | unfold mf_82_4 | unfold mf_82_7 | unfold mf_82_11 | unfold mf_82_14 | unfold mf_82_16 | unfold mf_82_38 | unfold mf_82_48 | unfold mf_82_64 | unfold mf_82_73 | unfold mf_82_93 | unfold mf_82_97 | unfold mf_82_98 | unfold mf_82_99 | unfold mf_82_106); try simp (disch := omega) only [ev_S, ev_P, ↓reduceIte, Nat.reduceEqDiff, Nat.reduceLeDiff, Nat.reduceAdd, Nat.reduceMul, Nat.reduceSub, reduceCtorEq, l32_0, l32_1, l32_2, l32_3, l32_4, l32_47, l32_2410, l32_166300, r1, r3, g1, g1', g2, g2', c])
        · refine ⟨s, 0, hcl 0 (by rw [e1, e1', if_neg]; show ¬ ser 4 x = ser 4 x'; rw [g0]; exact hz x' m' z g2' g3'), ?_, mfr.rf⟩
          repeat ((first | unfold mf_82 | unfold mf_82_0 | unfold mf_82_4 | unfold mf_82_7 | unfold mf_82_11 | unfold mf_82_14 | unfold mf_82_16 | unfold mf_82_38 | unfold mf_82_48 | unfold mf_82_64 | unfold mf_82_73 | unfold mf_82_93 | unfold mf_82_97 | unfold mf_82_98 | unfold mf_82_99 | unfold mf_82_106); try simp (disch := omega) only [ev_S, ev_P, ↓reduceIte, Nat.reduceEqDiff, Nat.reduceLeDiff, Nat.reduceAdd, Nat.reduceMul, Nat.reduceSub, reduceCtorEq, l32_0, l32_1, l32_2, l32_3, l32_4, l32_47, l32_2410, l32_166300, r1, r3, g1, g1'])
      · obtain ⟨e1', g1'⟩ | ⟨x', z', e1', g0', g1', g2'⟩ | ⟨x', m', e1', g1', g2', g3', g4'⟩ := slot3 (h6 j' hj').2
        · refine ⟨s, 0, hcl 0 (by rw [e1, e1', if_neg]; exact fun q => hp x q.symm), ?_, mfr.rf⟩
          repeat ((first | unfold mf_82 | unfold mf_82_0 | unfold mf_82_4 | unfold mf_82_7 | unfold mf_82_11 | unfold mf_82_14 | unfold mf_82_16 | unfold mf_82_38 | unfold mf_82_48 | unfold mf_82_64 | unfold mf_82_73 | unfold mf_82_93 | unfold mf_82_97 | unfold mf_82_98 | unfold mf_82_99 | unfold mf_82_106); try simp (disch := omega) only [ev_S, ev_P, ↓reduceIte, Nat.reduceEqDiff, Nat.reduceLeDiff, Nat.reduceAdd, Nat.reduceMul, Nat.reduceSub, reduceCtorEq, l32_0, l32_1, l32_2, l32_3, l32_4, l32_47, l32_2410, l32_166300, r1, r3, g1, g1'])
        · refine ⟨s, 0, hcl 0 (by rw [e1, e1', if_neg]; show ¬ ser 4 x = ser 4 x'; rw [g0']; exact fun q => hz x m z' g2 g3 q.symm), ?_, mfr.rf⟩
          repeat ((first | unfold mf_82 | unfold mf_82_0 | unfold mf_82_4 | unfold mf_82_7 | unfold mf_82_11 | unfold mf_82_14 | unfold mf_82_16 | unfold mf_82_38 | unfold mf_82_48 | unfold mf_82_64 | unfold mf_82_73 | unfold mf_82_93 | unfold mf_82_97 | unfold mf_82_98 | unfold mf_82_99 | unfold mf_82_106); try simp (disch := omega) only [ev_S, ev_P, ↓reduceIte, Nat.reduceEqDiff, Nat.reduceLeDiff, Nat.reduceAdd, Nat.reduceMul, Nat.reduceSub, reduceCtorEq, l32_0, l32_1, l32_2, l32_3, l32_4, l32_47, l32_2410, l32_166300, r1, r3, g1, g1'])
        · have hR : ∀ y, Rk j y → y < 166300 := fun y hy => by have := hy.2; omega
          have hR' : ∀ y, Rk j' y → y < 166300 := fun y hy => by have := hy.2; omega
          obtain ⟨s', es, ef⟩ := r_areSame (N := N) (s := s) (R := Rk j) (R' := Rk j') hN hR hR' g4 g4' (w1 x e1) (w2 x' e1')
          by_cases c : ser 4 x = ser 4 x'
          · refine ⟨s', 1, hcl 1 (by rw [e1, e1']; exact if_pos c), ?_, ef⟩
            rw [if_pos c] at es
            repeat ((first | unfold mf_82 | unfold mf_82_0 | unfold mf_82_4 | unfold mf_82_7 | unfold mf_82_11 | unfold mf_82_14 | unfold mf_82_16 | unfold mf_82_38 | unfold mf_82_48 | unfold mf_82_64 | unfold mf_82_73 | unfold mf_82_93 | unfold mf_82_97 | unfold mf_82_98 | unfold mf_82_99 | unfold mf_82_106); try simp (disch := omega) only [ev_S, ev_P, ↓reduceIte, Nat.reduceEqDiff, Nat.reduceLeDiff, Nat.reduceAdd, Nat.reduceMul, Nat.reduceSub, reduceCtorEq, l32_0, l32_1, l32_2, l32_3, l32_4, l32_47, l32_2410, l32_166300, r1, r3, g1, g1', es])
          · refine ⟨s', 0, hcl 0 (by rw [e1, e1']; exact if_neg c), ?_, ef⟩
            rw [if_neg c] at es
            repeat ((first | unfold mf_82 | unfold mf_82_0 | unfold mf_82_4 | unfold mf_82_7 | unfold mf_82_11 | unfold mf_82_14 | unfold mf_82_16 | unfold mf_82_38 | unfold mf_82_48 | unfold mf_82_64 | unfold mf_82_73 | unfold mf_82_93 | unfold mf_82_97 | unfold mf_82_98 | unfold mf_82_99 | unfold mf_82_106); try simp (disch := omega) only [ev_S, ev_P, ↓reduceIte, Nat.reduceEqDiff, Nat.reduceLeDiff, Nat.reduceAdd, Nat.reduceMul, Nat.reduceSub, reduceCtorEq, l32_0, l32_1, l32_2, l32_3, l32_4, l32_47, l32_2410, l32_166300, r1, r3, g1, g1', es])
    · refine ⟨s, 0, ?_, ?_, mfr.rf⟩
      · have q1 := q1 N X t
        have q3 := q3 N X t
        repeat ((first | unfold cf_17 | unfold cf_17_0 | unfold cf_17_4 | unfold cf_17_7 | unfold cf_17_11 | unfold cf_17_14 | unfold cf_17_23 | unfold cf_17_26 | unfold cf_17_30 | unfold cf_17_31); try simp (disch := omega) only [ev_S, ev_C, ↓reduceIte, Nat.reduceEqDiff, Nat.reduceLeDiff, Nat.reduceAdd, Nat.reduceMul, Nat.reduceSub, reduceCtorEq, l32_0, l32_1, l32_2, l32_3, l32_4, l32_7, q1, q3])
      · have r1 := q2 N s
        have r3 := q4 N s
        repeat ((first | unfold mf_82 | unfold mf_82_0 | unfold mf_82_4 | unfold mf_82_7 | unfold mf_82_11 | unfold mf_82_14 | unfold mf_82_16 | unfold mf_82_38 | unfold mf_82_48 | unfold mf_82_64 | unfold mf_82_73 | unfold mf_82_93 | unfold mf_82_97 | unfold mf_82_98 | unfold mf_82_99 | unfold mf_82_106); try simp (disch := omega) only [ev_S, ev_P, ↓reduceIte, Nat.reduceEqDiff, Nat.reduceLeDiff, Nat.reduceAdd, Nat.reduceMul, Nat.reduceSub, reduceCtorEq, l32_0, l32_1, l32_2, l32_3, l32_4, l32_47, l32_2410, l32_166300, r1, r3])
  · refine ⟨s, 0, ?_, ?_, mfr.rf⟩
    · have q1 := q1 N X t
      repeat ((first | unfold cf_17 | unfold cf_17_0 | unfold cf_17_4 | unfold cf_17_7 | unfold cf_17_11 | unfold cf_17_14 | unfold cf_17_23 | unfold cf_17_26 | unfold cf_17_30 | unfold cf_17_31); try simp (disch := omega) only [ev_S, ev_C, ↓reduceIte, Nat.reduceEqDiff, Nat.reduceLeDiff, Nat.reduceAdd, Nat.reduceMul, Nat.reduceSub, reduceCtorEq, l32_0, l32_1, l32_2, l32_3, l32_4, l32_7, q1])
    · have r1 := q2 N s
      repeat ((first | unfold mf_82 | unfold mf_82_0 | unfold mf_82_4 | unfold mf_82_7 | unfold mf_82_11 | unfold mf_82_14 | unfold mf_82_16 | unfold mf_82_38 | unfold mf_82_48 | unfold mf_82_64 | unfold mf_82_73 | unfold mf_82_93 | unfold mf_82_97 | unfold mf_82_98 | unfold mf_82_99 | unfold mf_82_106); try simp (disch := omega) only [ev_S, ev_P, ↓reduceIte, Nat.reduceEqDiff, Nat.reduceLeDiff, Nat.reduceAdd, Nat.reduceMul, Nat.reduceSub, reduceCtorEq, l32_0, l32_1, l32_2, l32_3, l32_4, l32_47, l32_2410, l32_166300, r1])
end SAC
