/-! ===== PURE: size and cell ===== -/
/-- the heap's arrays, whatever stands in them -/
def iH (t : cS) : Prop := 1 ≤ (kB t 44).1 ∧ 1 ≤ (kB t 43).1 ∧ (kB t 43).1 < 350000 ∧ (kB t 44).1 < 130000 ∧ rmK t
theorem cHp.iH {t : cS} {u w : Nat} (h : cHp t u w) : iH t := ⟨h.2.2.2.2.1, h.2.2.2.2.2.1, h.2.2.2.2.2.2.1, h.2.2.2.2.2.2.2.1, h.2.2.2.2.2.2.2.2⟩
section SCE
variable {N : Nat} {X : Nat → Option zz_C} {S : Nat → Option (Th 4)} {σ σ0 k : Nat} {μ : Nat → Nat} {t t' : cS} {s : mS}
theorem rfr.s0 (h : rfr σ t t') {σ' : Nat} (h0 : cS0 t σ') : cS0 t' σ' := hfr.s0 (t' := jI t' (3000000 + σ) 2 (kI t (3000000 + σ) 2)) h h0
theorem rfr.s1 (h : rfr σ t t') {σ' j : Nat} {ξ : List Int32} (h0 : cS1 t σ' j ξ) : cS1 t' σ' j ξ := hfr.s1 (t' := jI t' (3000000 + σ) 2 (kI t (3000000 + σ) 2)) h h0
theorem rfr.kI (h : rfr σ t t') {a b : Nat} (h1 : ¬ (a = 3000000 + σ ∧ b = 2)) (h2 : ¬ (a = 42 ∧ (b = 1 ∨ b = 3))) : kI t' a b = kI t a b := by
  have e := h.1 a b h2
  rw [kI_jI, if_neg h1] at e
  exact e
theorem iS.rd (h : iS S σ0 k μ t s) (hf : rfr σ t t') : iS S σ0 k μ t' s := by
  obtain ⟨h1, h2, h3, h4, ⟨h5, h50⟩, h6, h7, h8, h9⟩ := h
  have eM : kM t' = kM t := hf.2.2.2.2.1
  have eP : kP t' = kP t := hf.2.2.1
  have eN : kN t ≤ kN t' := hf.2.2.2.2.2.2.1
  refine ⟨h1, by rw [eP]; exact h2, by rw [hf.kI (by omega) (by omega)]; exact h3, h4, ⟨hf.s0 h5, by omega⟩, fun j hj => ⟨hf.s1 (h6 j hj).1, (h6 j hj).2⟩, h7, fun m hm σ e => ?_, fun m hm => ?_⟩
  · rw [eM] at e
    obtain ⟨⟨a1, a2⟩, a3, a4⟩ := h8 m hm σ e
    exact ⟨⟨hf.s0 a1, by omega⟩, a3, fun m' σ' hm' e' => by rw [eM] at e'; exact a4 m' σ' hm' e'⟩
  · obtain ⟨a1, a2⟩ := h9 m hm
    exact ⟨by rw [eM]; exact a1, fun j hj => ⟨hf.s1 (a2 j hj).1, (a2 j hj).2⟩⟩
/-- shelf j's THING on the heap -/
theorem c_look {j : Nat} {x : Th 4} (hN : 170000 ≤ N) (h : iS S σ0 k μ t s) (hH : iH t) (hj : j < 8) (hx : S j = some x) : ∃ t' v u, cf_251 N X (Int32.ofNat j) t = some (t', .inl (some (.long v))) ∧ cN (cel t') u v ⟨4, x⟩ ∧ cHp t' u 0 ∧ rfr σ0 t t' ∧ u ≤ 2400 := by
  obtain ⟨h1, h2, h3, h4, ⟨h5, h50⟩, h6, h7, -⟩ := h
  obtain ⟨b1, b2, b3, b4, b5⟩ := hH
  have hw := h7 j x hx
  have hbw := bulk_wf 4 x hw
  have s1 := (h6 j hj).1
  rw [hx] at s1
  have s1 : cS1 t σ0 j (ser 4 x) := s1
  have hl : (ser 4 x).length ≤ 1200 := Nat.le_trans (ser_len 4 x) (by omega)
  have hp : 0 < (ser 4 x).length := by
    obtain ⟨l, e⟩ := ser_kd 4 x
    rw [e]
    exact Nat.succ_pos _
  have f0 : hfr t (jI (jI t 42 1 0) 42 3 0) := by
    refine ⟨fun k f r => ?_, rfl, rfl, fun _ _ _ _ => ⟨rfl, rfl, rfl⟩, rfl, rfl, Nat.le_refl _, Nat.le_refl _, Nat.le_refl _⟩
    show (if k = 42 ∧ f = 3 then _ else (if k = 42 ∧ f = 1 then _ else _)) = _
    rw [if_neg (by omega), if_neg (by omega)]
  have hh : cHp (jI (jI t 42 1 0) 42 3 0) 0 0 := ⟨rfl, rfl, Nat.zero_le _, Nat.zero_le _, b1, b2, b3, b4, b5⟩
  have g1 := h5.1
  have g2 := h5.2.1
  obtain ⟨t', v, u', a1, a2, a3, a4, a5, a6, a7, a8, -⟩ := c_readThing (N := N) (X := X) (σ := σ0) (j := j) (ξ := ser 4 x) hN 4 7 0 x hw (by omega) (jI (jI (jI t 42 1 0) 42 3 0) (3000000 + σ0) 2 0) 0 0 0 [] ⟨hfr.s0 (t' := jI (jI t 42 1 0) 42 3 0) f0 h5, hfr.s1 (t' := jI (jI t 42 1 0) 42 3 0) f0 s1, by show (if _ ∧ _ then _ else _) = _; exact if_pos ⟨rfl, rfl⟩, hl, hj⟩ (cHp_ix (by omega) hh) (by rw [List.drop_zero, List.append_nil]) (Nat.zero_le _) (by show 0 + 4 * bulk 4 x ≤ _; omega)
  have a8 : u' + 1 ≤ 0 + 4 * bulk 4 x := a8
  refine ⟨t', v, u', ?_, a2, a3, rfr.tr (rfr.tr (rfr.of f0) rfr.ix) a4, by omega⟩
  have s1a := s1.1
  have e120 : cf_120 N X t = some (jI (jI t 42 1 0) 42 3 0, .inl none) := rfl
  have a1' : cf_S4 N X 12 217 [.ref σ0, .int (Int32.ofNat j), .int (Int32.ofNat 0)] (jI (jI (jI t 42 1 (Int32.ofNat 0)) 42 3 (Int32.ofNat 0)) (3000000 + σ0) 2 (Int32.ofNat 0)) = some (t', .inl (some (.long v))) := a1
  repeat ((first | unfold cf_251 | unfold cf_251_0 | unfold cf_251_7 | unfold cf_251_19 | unfold cf_215 | unfold cf_215_0 | unfold cf_215_9 | unfold cf_215_14 | unfold cf_215_15 | unfold cf_215_27); try simp (disch := omega) only [ev_S, ev_C, ↓reduceIte, Nat.reduceEqDiff, Nat.reduceLeDiff, Nat.reduceAdd, Nat.reduceMul, Nat.reduceSub, reduceCtorEq, l32_0, l32_1, l32_2, l32_3, l32_4, l32_7, l32_10, l32_12, l32_20, e120, h2, g1, g2, s1a, a1'])
/-- shelf s's kind, the reference's -/
theorem r_kind {j : Nat} (hj : j < 8) (hr : ∀ N s, mf_73 N (Int32.ofNat j) s = some (s, some (.int 1))) (h : rSl (s.2.2.1 47) j (S j)) : mf_79 N (Int32.ofNat j) s = some (s, some (.int (kdO (S j)))) := by
  have e := h.hd
  have r1 := hr N s
  repeat ((first | unfold mf_79 | unfold mf_79_0 | unfold mf_79_4 | unfold mf_79_7 | unfold mf_79_20 | unfold mf_79_21); try simp (disch := omega) only [ev_S, ev_P, ↓reduceIte, Nat.reduceEqDiff, Nat.reduceLeDiff, Nat.reduceAdd, Nat.reduceMul, Nat.reduceSub, reduceCtorEq, l32_0, l32_1, l32_2, l32_3, l32_4, l32_47, l32_2410, l32_166300, r1, e])
/-- a number that is an index, or none -/
theorem ixi (i : Int32) : i = -1 ∨ (¬ i = -1 ∧ i < 0) ∨ ∃ m : Nat, m < 2147483648 ∧ i = Int32.ofNat m := by
  by_cases c : i < 0
  · by_cases c2 : i = -1
    · exact Or.inl c2
    · exact Or.inr (Or.inl ⟨c2, c⟩)
  · obtain ⟨m, h1, h2⟩ := i32of c
    exact Or.inr (Or.inr ⟨m, h1, h2⟩)
end SCE
