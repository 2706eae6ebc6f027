/-! ===== what is in limbo becomes an array; copyOf; new Shelves ===== -/
section KT
variable {h h' : zz_H} {t t' : cS} {s : mS} {X : Nat → Option zz_C}
theorem kVa0_mv {k k' : Nat} (h1 : k' ≠ k) (h2 : k' ≠ 111) : kVa0 (jMv t k) k' = kVa0 t k' := by
  have eA : kA (jMv t k) k' = kA t k' := if_neg h1
  have eB : kB (jMv t k) k' = kB t k' := if_neg h1
  unfold kVa0
  split <;> first | rfl | (unfold kint; rw [eA]; done) | (unfold klng; rw [eB]; done) | (unfold kint; rw [eA]; rfl) | (unfold klng; rw [eB]; rfl) | (exfalso; omega)
theorem kVa_mv {k k' : Nat} (hk : k < 111) (h1 : k' ≠ k) (h2 : k' ≠ 111) : kVa (jMv t k) k' = kVa t k' := by
  have eA : kA (jMv t k) k' = kA t k' := if_neg h1
  unfold kVa
  by_cases h3 : k' < 2000000
  · rw [if_pos h3, if_pos h3]
    exact kVa0_mv h1 h2
  · rw [if_neg h3, if_neg h3]
    have e : kVaS (jMv t k) k' ((k' - 2000000) % 20) = kVaS t k' ((k' - 2000000) % 20) := by
      have e : (fun i => if i < 8 then some (kD (jMv t k) (k' + 1 + i)) else none) = (fun i => if i < 8 then some (kD t (k' + 1 + i)) else none) := by
        funext i
        rw [show kD (jMv t k) (k' + 1 + i) = kD t (k' + 1 + i) from if_neg (by omega)]
      unfold kVaS kint
      rw [e, eA]
    rw [e]
    rfl
theorem kVs_mv {k k' : Nat} (hk : k < 111) : kVs (jMv t k) k' = kVs t k' := by
  unfold kVs
  rw [show kD (jMv t k) (2000000 + 20 * k' + 1) = kD t (2000000 + 20 * k' + 1) from if_neg (by omega), show kD (jMv t k) (2000000 + 20 * k' + 10) = kD t (2000000 + 20 * k' + 10) from if_neg (by omega)]
  rfl
theorem kVa_mv_i {k ty : Nat} (hk : k < 111) (e : kVa t k = some (.inl (ty, (kA t k).1, .inl (kA t k).2))) : kVa (jMv t k) k = some (.inl (ty, (kA t 111).1, .inl (kA t 111).2)) := by
  have eA : kA (jMv t k) k = kA t 111 := if_pos rfl
  have ei : ∀ ty, kint (jMv t k) ty k = some (.inl (ty, (kA t 111).1, .inl (kA t 111).2)) := fun ty => by
    unfold kint
    rw [eA]
  have ei0 : ∀ ty, kint t ty k = some (.inl (ty, (kA t k).1, .inl (kA t k).2)) := fun _ => rfl
  unfold kVa at e ⊢
  rw [if_pos (by omega)] at e ⊢
  unfold kVa0 at e ⊢
  split at e <;> first
    | (rw [ei0] at e; simp only [ei]; cases e; rfl)
    | (simp [klng] at e; done)
    | (simp at e; done)
    | (exfalso; omega)
theorem kVa_mv_l {k : Nat} (hk : k < 111) (e : kVa t k = some (.inl (1, (kB t k).1, .inr (.inl (kB t k).2)))) : kVa (jMv t k) k = some (.inl (1, (kB t 111).1, .inr (.inl (kB t 111).2))) := by
  have eA : kB (jMv t k) k = kB t 111 := if_pos rfl
  have ei : klng (jMv t k) k = some (.inl (1, (kB t 111).1, .inr (.inl (kB t 111).2))) := by
    unfold klng
    rw [eA]
  unfold kVa at e ⊢
  rw [if_pos (by omega)] at e ⊢
  unfold kVa0 at e ⊢
  split at e <;> first
    | exact ei
    | (simp [kint] at e; done)
    | (simp at e; done)
    | (exfalso; omega)
theorem kR.pMv (hR : kR h t s) {o ci f k x : Nat} {fs : List Value} {c : zz_C} (ho : kOwn k = o) (hk : k < 111 ∧ k ≠ 41) (h0 : kVo t o = some (.inr (ci, fs))) (h1 : kVo (jMv t k) o = some (.inr (ci, fs.set f (.ref (kD t 111))))) (hf : f < fs.length) (hfit : zz_fit (zt_tf ci f) (.ref x) = true) (hx : kD t 111 = x) (hl : kVa t 111 = some c) (hv : kVa (jMv t k) k = some c) : ∃ h', hpv h o ci f (.ref x) = some h' ∧ kR h' (jMv t k) s := by
  subst hx
  refine ⟨h.set o (.inr (ci, fs.set f (.ref (kD t 111)))), ?_, ?_⟩
  · unfold hpv
    rw [hR.atO h0]
    dsimp only
    rw [if_pos ⟨rfl, hf, hfit⟩]
  · obtain ⟨own, q1, q2, q3, q4, q5, q6, q7⟩ := hR
    obtain ⟨e0, o0⟩ := q1 o _ h0
    obtain ⟨el, ol⟩ := q2 111 c hl
    have hlen := (List.getElem?_eq_some_iff.mp e0).1
    have keep : ∀ x, own x ≠ own o → (h.set o (.inr (ci, fs.set f (.ref (kD t 111)))))[x]? = h[x]? := fun x hx => List.getElem?_set_ne (fun e => hx (by rw [e]))
    have hw : ∀ x, own x ≠ own (kD t 111) → (if x = kD t 111 then 4 * k + 1 else own x) = own x := fun x hx => if_neg (fun e => hx (by rw [e]))
    refine ⟨fun x => if x = kD t 111 then 4 * k + 1 else own x, ?_, ?_, ?_, ?_, ?_, ?_, ?_⟩
    · intro k' c' hk'
      by_cases hkk : k' = o
      · subst hkk
        rw [h1] at hk'
        cases hk'
        exact ⟨List.getElem?_set_self hlen, (hw _ (by omega)).trans o0⟩
      · rw [kVo_mv ho hkk] at hk'
        obtain ⟨e1, o1⟩ := q1 k' c' hk'
        exact ⟨(keep _ (by omega)).trans e1, (hw _ (by omega)).trans o1⟩
    · intro k' c' hk'
      by_cases hkk : k' = k
      · subst hkk
        rw [hv] at hk'
        cases hk'
        have e9 : kD (jMv t k') k' = kD t 111 := if_pos rfl
        rw [e9]
        exact ⟨(keep _ (by omega)).trans el, if_pos rfl⟩
      · by_cases h11 : k' = 111
        · subst h11
          exact absurd hk' (by intro q; cases q)
        · rw [kVa_mv hk.1 hkk h11] at hk'
          have e9 : kD (jMv t k) k' = kD t k' := if_neg hkk
          rw [e9]
          obtain ⟨e1, o1⟩ := q2 k' c' hk'
          exact ⟨(keep _ (by omega)).trans e1, (hw _ (by omega)).trans o1⟩
    · intro k' hk'
      obtain ⟨e1, o1⟩ := q3 k' hk'
      rw [kVs_mv hk.1]
      exact ⟨(keep _ (by omega)).trans e1, (hw _ (by omega)).trans o1⟩
    · intro j hj
      obtain ⟨e1, o1⟩ := q4 j hj
      exact ⟨(keep _ (by omega)).trans e1, (hw _ (by omega)).trans o1⟩
    · rw [List.length_set]
      exact q5
    · refine (zz_sl_set e0 ?_).trans q6
      rfl
    · exact q7
theorem kR.pMvi (hR : kR h t s) {o ci f k x : Nat} {fs : List Value} (ho : kOwn k = o) (hk : k < 111 ∧ k ≠ 41) (h0 : kVo t o = some (.inr (ci, fs))) (h1 : kVo (jMv t k) o = some (.inr (ci, fs.set f (.ref (kD t 111))))) (hf : f < fs.length) (hfit : zz_fit (zt_tf ci f) (.ref x) = true) (hx : kD t 111 = x) (hz : kZ t = 1) (e : kVa t k = some (.inl (0, (kA t k).1, .inl (kA t k).2))) : ∃ h', hpv h o ci f (.ref x) = some h' ∧ kR h' (jMv t k) s :=
  hR.pMv ho hk h0 h1 hf hfit hx (c := .inl (0, (kA t 111).1, .inl (kA t 111).2)) ((if_pos hz : _ = kint t 0 111)) (kVa_mv_i hk.1 e)
theorem kR.pMvb (hR : kR h t s) {o ci f k x : Nat} {fs : List Value} (ho : kOwn k = o) (hk : k < 111 ∧ k ≠ 41) (h0 : kVo t o = some (.inr (ci, fs))) (h1 : kVo (jMv t k) o = some (.inr (ci, fs.set f (.ref (kD t 111))))) (hf : f < fs.length) (hfit : zz_fit (zt_tf ci f) (.ref x) = true) (hx : kD t 111 = x) (hz : kZ t = 3) (e : kVa t k = some (.inl (2, (kA t k).1, .inl (kA t k).2))) : ∃ h', hpv h o ci f (.ref x) = some h' ∧ kR h' (jMv t k) s :=
  hR.pMv ho hk h0 h1 hf hfit hx (c := .inl (2, (kA t 111).1, .inl (kA t 111).2)) (by
    show (if kZ t = 1 then kint t 0 111 else if kZ t = 2 then klng t 111 else if kZ t = 3 then kint t 2 111 else none) = _
    rw [hz]
    rfl) (kVa_mv_i hk.1 e)
theorem kR.pMvl (hR : kR h t s) {o ci f k x : Nat} {fs : List Value} (ho : kOwn k = o) (hk : k < 111 ∧ k ≠ 41) (h0 : kVo t o = some (.inr (ci, fs))) (h1 : kVo (jMv t k) o = some (.inr (ci, fs.set f (.ref (kD t 111))))) (hf : f < fs.length) (hfit : zz_fit (zt_tf ci f) (.ref x) = true) (hx : kD t 111 = x) (hz : kZ t = 2) (e : kVa t k = some (.inl (1, (kB t k).1, .inr (.inl (kB t k).2)))) : ∃ h', hpv h o ci f (.ref x) = some h' ∧ kR h' (jMv t k) s :=
  hR.pMv ho hk h0 h1 hf hfit hx (c := .inl (1, (kB t 111).1, .inr (.inl (kB t 111).2))) (by
    show (if kZ t = 1 then kint t 0 111 else if kZ t = 2 then klng t 111 else if kZ t = 3 then kint t 2 111 else none) = _
    rw [hz]
    rfl) (kVa_mv_l hk.1 e)
/-- a row of Shelves' numbers -/
theorem kR.mvS (hR : kR h t s) {k x v : Nat} {i : Int32} (e : kH t k = true) (hi : ¬ (i < 0 ∨ 8 ≤ i.toNatClampNeg)) (hx : kD t (2000000 + 20 * k + 1) = x) (hv : kD t 111 = v) (hz : kZ t = 1) : ∃ h', hst 1 h x i v = some h' ∧ kR h' (jMv t (2000000 + 20 * k + 1 + 1 + i.toNatClampNeg)) s := by
  subst hx
  subst hv
  have hl : kVa t 111 = some (.inl (0, (kA t 111).1, .inl (kA t 111).2)) := (if_pos hz : _ = kint t 0 111)
  refine ⟨h.set (kD t (2000000 + 20 * k + 1)) (.inl (5, 8, .inr (.inr (.inr (.inr (va_up (fun i => if i < 8 then some (kD t (2000000 + 20 * k + 1 + 1 + i)) else none) i.toNatClampNeg (some (kD t 111)))))))), ?_, ?_⟩
  · unfold hst zz_aast2
    rw [if_pos rfl]
    simp only [hR.atA (ka_S1 e) rfl, hR.atA hl rfl]
    first | rw [if_pos ⟨trivial, hi⟩] | rw [if_pos ⟨rfl, hi⟩] | (simp only [true_and]; rw [if_pos hi])
  · have hi : i.toNatClampNeg < 8 := by
      have : ¬ 8 ≤ i.toNatClampNeg := fun q => hi (Or.inr q)
      omega
    generalize i.toNatClampNeg = j at hi ⊢
    have hK1 := ka_S1 e
    obtain ⟨own, q1, q2, q3, q4, q5, q6, q7⟩ := hR
    obtain ⟨e0, o0⟩ := q2 _ _ hK1
    obtain ⟨el, ol⟩ := q2 111 _ hl
    have hlen := (List.getElem?_eq_some_iff.mp e0).1
    have keep : ∀ {c : zz_C} x, own x ≠ own (kD t (2000000 + 20 * k + 1)) → (h.set (kD t (2000000 + 20 * k + 1)) c)[x]? = h[x]? := fun x hx => List.getElem?_set_ne (fun e => hx (by rw [e]))
    have hw : ∀ x, own x ≠ own (kD t 111) → (if x = kD t 111 then 4 * (2000000 + 20 * k + 1 + 1 + j) + 1 else own x) = own x := fun x hx => if_neg (fun e => hx (by rw [e]))
    refine ⟨fun x => if x = kD t 111 then 4 * (2000000 + 20 * k + 1 + 1 + j) + 1 else own x, ?_, ?_, ?_, ?_, ?_, ?_, ?_⟩
    · intro k' c' hk'
      have hb : kVo (jMv t (2000000 + 20 * k + 1 + 1 + j)) k' = kVo t k' := by
        have e : ∀ q, q < 111 → kD (jMv t (2000000 + 20 * k + 1 + 1 + j)) q = kD t q := fun q hq => if_neg (by omega)
        exact kVo_D (fun _ _ _ => rfl) rfl rfl e
      rw [hb] at hk'
      obtain ⟨e1, o1⟩ := q1 k' c' hk'
      exact ⟨(keep _ (by omega)).trans e1, (hw _ (by omega)).trans o1⟩
    · intro k' c' hk'
      by_cases hkk : k' = 2000000 + 20 * k + 1 + 1 + j
      · have e9 : kD (jMv t (2000000 + 20 * k + 1 + 1 + j)) k' = kD t 111 := if_pos hkk
        have e8 : kVa (jMv t (2000000 + 20 * k + 1 + 1 + j)) k' = some (.inl (0, (kA t 111).1, .inl (kA t 111).2)) := by
          have eA : kA (jMv t (2000000 + 20 * k + 1 + 1 + j)) k' = kA t 111 := if_pos hkk
          have e1 : (k' - 2000000) / 20 = k := by omega
          have e2 : (k' - 2000000) % 20 = 2 + j := by omega
          unfold kVa
          rw [if_neg (by omega), e1]
          rw [show kH (jMv t (2000000 + 20 * k + 1 + 1 + j)) k = true from e, if_pos rfl, e2]
          unfold kVaS
          rw [if_neg (by omega), if_neg (by omega)]
          unfold kint
          rw [eA]
        rw [e8] at hk'
        cases hk'
        rw [e9]
        refine ⟨(keep _ (by omega)).trans el, ?_⟩
        rw [hkk]
        exact if_pos rfl
      · have e9 : kD (jMv t (2000000 + 20 * k + 1 + 1 + j)) k' = kD t k' := if_neg hkk
        by_cases h11 : k' = 111
        · subst h11
          exact absurd hk' (by intro q; cases q)
        · rw [e9]
          by_cases hk1 : k' = 2000000 + 20 * k + 1
          · have e8 : kVa (jMv t (2000000 + 20 * k + 1 + 1 + j)) (2000000 + 20 * k + 1) = some (.inl (5, 8, .inr (.inr (.inr (.inr (va_up (fun i => if i < 8 then some (kD t (2000000 + 20 * k + 1 + 1 + i)) else none) j (some (kD t 111)))))))) := by
              rw [ka_S1 (t := jMv t (2000000 + 20 * k + 1 + 1 + j)) e]
              congr 8
              funext i
              unfold va_up
              by_cases hij : i = j
              · subst hij
                rw [if_pos rfl, if_pos hi]
                rw [show kD (jMv t (2000000 + 20 * k + 1 + 1 + i)) (2000000 + 20 * k + 1 + 1 + i) = kD t 111 from if_pos rfl]
              · rw [if_neg hij]
                rw [show kD (jMv t (2000000 + 20 * k + 1 + 1 + j)) (2000000 + 20 * k + 1 + 1 + i) = kD t (2000000 + 20 * k + 1 + 1 + i) from if_neg (by omega)]
            rw [hk1, e8] at hk'
            cases hk'
            rw [hk1]
            exact ⟨List.getElem?_set_self hlen, (hw _ (by omega)).trans o0⟩
          · have e8 : kVa (jMv t (2000000 + 20 * k + 1 + 1 + j)) k' = kVa t k' := by
              have eA : kA (jMv t (2000000 + 20 * k + 1 + 1 + j)) k' = kA t k' := if_neg hkk
              unfold kVa
              by_cases h3 : k' < 2000000
              · rw [if_pos h3, if_pos h3]
                exact kVa0_mv hkk h11
              · rw [if_neg h3, if_neg h3]
                by_cases h4 : (k' - 2000000) % 20 = 1
                · have e7 : (fun i => if i < 8 then some (kD (jMv t (2000000 + 20 * k + 1 + 1 + j)) (k' + 1 + i)) else none) = (fun i => if i < 8 then some (kD t (k' + 1 + i)) else none) := by
                    funext i
                    by_cases h8 : i < 8
                    · rw [show kD (jMv t (2000000 + 20 * k + 1 + 1 + j)) (k' + 1 + i) = kD t (k' + 1 + i) from if_neg (by omega)]
                    · rw [if_neg h8, if_neg h8]
                  unfold kVaS
                  rw [if_pos h4, if_pos h4, e7]
                  rfl
                · unfold kVaS kint
                  rw [if_neg h4, if_neg h4, eA]
                  rfl
            rw [e8] at hk'
            obtain ⟨e1, o1⟩ := q2 k' c' hk'
            exact ⟨(keep _ (by omega)).trans e1, (hw _ (by omega)).trans o1⟩
    · intro k' hk'
      obtain ⟨e1, o1⟩ := q3 k' hk'
      have e8 : kVs (jMv t (2000000 + 20 * k + 1 + 1 + j)) k' = kVs t k' := by
        unfold kVs
        rw [show kD (jMv t (2000000 + 20 * k + 1 + 1 + j)) (2000000 + 20 * k' + 1) = kD t (2000000 + 20 * k' + 1) from if_neg (by omega), show kD (jMv t (2000000 + 20 * k + 1 + 1 + j)) (2000000 + 20 * k' + 10) = kD t (2000000 + 20 * k' + 10) from if_neg (by omega)]
        rfl
      rw [e8]
      exact ⟨(keep _ (by omega)).trans e1, (hw _ (by omega)).trans o1⟩
    · intro j' hj
      obtain ⟨e1, o1⟩ := q4 j' hj
      exact ⟨(keep _ (by omega)).trans e1, (hw _ (by omega)).trans o1⟩
    · rw [List.length_set]
      exact q5
    · refine (zz_sl_set e0 ?_).trans q6
      rfl
    · exact q7
end KT
