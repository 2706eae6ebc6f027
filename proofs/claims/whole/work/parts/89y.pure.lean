/-! ===== PURE: a call's name waits; a call is noted (both sides) ===== -/
section CAL
variable {N : Nat} {X : Nat → Option zz_C} {t t' : cS} {s s' s1 s2 : mS} {b : Nat → Nat} {n p e i op D D' : Nat} {code code1 code2 fl : List Ins} {vs : List (List Nat)} {cl : List Cn} {W W' : List Wt} {cu cu' : List Nat} {fs : Nat × Nat × Nat} {al : Int32} {rk : Nat → List Value → cS → kO} {Z : List (Nat × Nat)} {ah : Option (Nat × Nat)}
theorem i32_ex (x : Int32) : ∃ y : Nat, x = Int32.ofNat y := ⟨x.toBitVec.toNat, by
  apply Int32.toBitVec_inj.mp
  rw [Int32.toBitVec_ofNat']
  simp⟩
theorem r_waitN {k a q : Nat} (h : rW s W) (hl : W.length < 80) (hk : k ≤ 8) : ∃ s' v y, mf_281 N (Int32.ofNat k) (Int32.ofNat a) (Int32.ofNat q) s = some (s', none) ∧ rW s' (W ++ [(k, a, 0, q, v, y)]) ∧ fW s s' := by
  obtain ⟨h1, h2, h3⟩ := h
  obtain ⟨y, hy⟩ := i32_ex (s.2.2.1 43 W.length)
  have ll : (W ++ [(k, a, 0, q, s.2.2.2 42 W.length, y)]).length = W.length + 1 := List.length_append
  refine ⟨mI (mA (mA (mA (mA s 38 (upd (s.2.2.1 38) W.length (Int32.ofNat k))) 39 (upd (s.2.2.1 39) W.length (Int32.ofNat a))) 40 (upd (s.2.2.1 40) W.length (Int32.ofNat 0))) 41 (upd (s.2.2.1 41) W.length (Int32.ofNat q))) 44 (Int32.ofNat (W.length + 1)), s.2.2.2 42 W.length, y, ?_, ⟨by rw [ll]; rfl, by rw [ll]; omega, fun i hi => ?_⟩, ⟨fun q r => if_neg r, fun _ _ => rfl, fun q r => ?_, fun _ _ => rfl⟩⟩
  · repeat ((first | unfold mf_281 | unfold mf_281_0); try simp (disch := omega) only [ev_S, ev_P, ↓reduceIte, Nat.reduceEqDiff, Nat.reduceLeDiff, Nat.reduceAdd, Nat.reduceMul, Nat.reduceSub, reduceCtorEq, l32_0, l32_1, l32_2, l32_3, l32_4, l32_38, l32_39, l32_40, l32_41, l32_44, h1])
  · rw [ll] at hi
    by_cases c : i < W.length
    · rw [List.getElem_append_left c]
      obtain ⟨q1, q2, q3, q4, q5, q6⟩ := h3 i c
      exact ⟨(upd_n (by omega)).trans q1, (upd_n (by omega)).trans q2, (upd_n (by omega)).trans q3, (upd_n (by omega)).trans q4, q5, q6⟩
    · have ei : i = W.length := by omega
      subst ei
      rw [List.getElem_append_right (Nat.le_refl _)]
      simp only [Nat.sub_self, List.getElem_cons_zero]
      exact ⟨if_pos rfl, if_pos rfl, if_pos rfl, if_pos rfl, hk, fun _ => ⟨rfl, hy⟩⟩
  · show (if q = 41 then _ else if q = 40 then _ else if q = 39 then _ else if q = 38 then _ else s.2.2.1 q) = _
    rw [if_neg (by omega), if_neg (by omega), if_neg (by omega), if_neg (by omega)]
theorem rW.nm {w : Wt} {v : Int64} {x : Nat} (h : rW s (W ++ [w])) : rW (mA (mB s 42 (vp_updL (s.2.2.2 42) W.length v)) 43 (upd (s.2.2.1 43) W.length (Int32.ofNat x))) (W ++ [(w.1, w.2.1, w.2.2.1, w.2.2.2.1, v, x)]) ∧ fW s (mA (mB s 42 (vp_updL (s.2.2.2 42) W.length v)) 43 (upd (s.2.2.1 43) W.length (Int32.ofNat x))) := by
  obtain ⟨h1, h2, h3⟩ := h
  have ll : (W ++ [w]).length = W.length + 1 := List.length_append
  have ll2 : (W ++ [(w.1, w.2.1, w.2.2.1, w.2.2.2.1, v, x)]).length = W.length + 1 := List.length_append
  refine ⟨⟨by rw [ll2, ← ll]; exact h1, by rw [ll2, ← ll]; exact h2, fun i hi => ?_⟩, ⟨fun _ _ => rfl, fun _ _ => rfl, fun q r => ?_, fun q r => ?_⟩⟩
  · rw [ll2] at hi
    by_cases c : i < W.length
    · have h4 := h3 i (by omega)
      rw [List.getElem_append_left c] at h4 ⊢
      obtain ⟨q1, q2, q3, q4, q5, q6⟩ := h4
      refine ⟨q1, q2, q3, q4, q5, fun z => ⟨?_, (upd_n (by omega)).trans (q6 z).2⟩⟩
      show vp_updL (s.2.2.2 42) W.length v i = _
      unfold vp_updL
      rw [if_neg (by omega)]
      exact (q6 z).1
    · have ei : i = W.length := by omega
      subst ei
      have h4 := h3 W.length (by omega)
      rw [List.getElem_append_right (Nat.le_refl _)] at h4 ⊢
      simp only [Nat.sub_self, List.getElem_cons_zero] at h4 ⊢
      obtain ⟨q1, q2, q3, q4, q5, q6⟩ := h4
      exact ⟨q1, q2, q3, q4, q5, fun _ => ⟨if_pos rfl, if_pos rfl⟩⟩
  · show (if q = 43 then _ else s.2.2.1 q) = _
    rw [if_neg (by omega)]
  · show (if q = 42 then _ else s.2.2.2 q) = _
    rw [if_neg (by omega)]
/-- a call is noted -/
theorem PEg.nt {x : Cn} {cp : List Cn} (h : PEg b n p e i op D code code1 vs cl cp W cu fs t s) (hx : okN code x) (hD : D' + 1 ≤ D) (hle : cl.length + 1 ≤ rl code) : ∃ t' s', cf_198 N X (cK code x).1 (cK code x).2.1 (cK code x).2.2.1 (cK code x).2.2.2 t = some (t', .inl none) ∧ mf_273 N (rK e code x).1 (rK e code x).2.1 (rK e code x).2.2.1 (rK e code x).2.2.2 s = some (s', none) ∧ PEg b n p e i op D' code code1 vs (cl ++ [x]) cp W cu fs t' s' ∧ FR p e t t' s s' := by
  have hrl := h.rle
  obtain ⟨h1, hc, hr, hw, hW, hV, k1, k2, k3, k4, k5, k6, k7⟩ := h
  have hp := hc.2.1
  have hrm : rmG t := h1.1.2.2.2.2.2.2.2
  obtain ⟨hi, e5, e6, e7, hkk, ho, he, hlt, hll⟩ := h1.now
  obtain ⟨t', a1, a2, g, gl⟩ := c_note (N := N) (X := X) (a := (cK code x).1) (v := (cK code x).2.1) (c := (cK code x).2.2.1) (d := (cK code x).2.2.2) k1 hrm (by rw [List.length_map]; omega)
  obtain ⟨s', b1, b2, f⟩ := r_called (N := N) (a := (rK e code x).1) (v := (rK e code x).2.1) (c := (rK e code x).2.2.1) (d := (rK e code x).2.2.2) k2 (by rw [List.length_map]; omega)
  have hq : pR b n i op t' s := h1.kC g gl (fun k f z => by omega) (fun k z => by omega)
  refine ⟨t', s', a1, b1, ⟨hq.kR (fun q z => f.1 q (by omega)) (f.2.1 7 (fun z => z)) (f.2.2.1 2 (by omega)) (f.2.2.2 0 (by omega)), hc.keep g (fun z => by rcases hp with y | y <;> omega) (fun k z => by rcases hp with y | y <;> omega) (g.p21 (by omega)), hr.keep (f.1 12 (by omega)) (f.1 28 (by omega)) (fun q _ => f.2.2.1 q (by omega)), hw, hW.keep (f.1 44 (by omega)) (fun q _ => f.2.2.1 q (by omega)) (f.2.2.2 42 (by omega)), hV.keep (g.1 2 4 (by omega)) (g.2.2.1 7 (by omega) (by decide)).2.1 (f.1 22 (by omega)) (f.2.2.2 21 (by omega)), ?_, ?_, ?_, k4, ?_, ?_, by omega⟩, g.mono (fun k f z => Or.inr (Or.inl (by omega))) (fun k z => by unfold aQ; omega), fN.Q f⟩
  · rw [List.map_append]
    exact a2
  · rw [List.map_append]
    exact b2
  · refine ⟨fun y hy => ?_, k3.2⟩
    rw [List.mem_append, List.mem_singleton] at hy
    rcases hy with hy | hy
    · exact k3.1 y hy
    · rw [hy]
      exact hx
  · rw [List.length_append, List.length_singleton]
    omega
  · rw [List.length_append, List.length_singleton]
    exact hle
end CAL
