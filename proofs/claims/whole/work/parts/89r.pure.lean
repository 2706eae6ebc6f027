/-! ===== PURE: the reference's rounds over an expression (1): what waits is written ===== -/
/-- the reference's round -/
abbrev LL (N f : Nat) (al h : Int32) (s : mS) : mO := mf_285_L3 N f 0 al h s
def twI (z : Nat × Nat) : Ins := (5, 0, z.1, 0, Int32.ofNat z.2, 0, 0)
def ahI : Option (Nat × Nat) → List Ins
  | none => []
  | some z => [(if z.1 = 45 then 3 else 4, 0, 0, 0, Int32.ofNat z.2, 0, 0)]
def ahW : Option (Nat × Nat) → List Wt
  | none => []
  | some z => [(2, z.1, 0, z.2, 0, 0)]
def okA : Option (Nat × Nat) → Prop
  | none => True
  | some z => z.1 = 45 ∨ z.1 = 33
/-- what stands below: nothing, a bracket, a sign that binds looser -/
def HW (l : Nat) (W : List Wt) : Prop := W = [] ∨ ∃ W' w, W = W' ++ [w] ∧ (3 ≤ w.1 ∨ ∃ z : Nat × Nat, w = bt z ∧ okS z.1 ∧ lv z.1 < l)
theorem HW.mono {l l' : Nat} {W : List Wt} (h : HW l W) (hl : l ≤ l') : HW l' W := by
  rcases h with h | ⟨W', w, h1, h2 | ⟨z, h2, h3, h4⟩⟩
  · exact Or.inl h
  · exact Or.inr ⟨W', w, h1, Or.inl h2⟩
  · exact Or.inr ⟨W', w, h1, Or.inr ⟨z, h2, h3, by omega⟩⟩
theorem HW.stp {l : Nat} {W : List Wt} (h : HW l W) : stp l W := by
  rcases h with h | ⟨W', w, h1, h2 | ⟨z, h2, h3, h4⟩⟩
  · exact Or.inl h
  · exact Or.inr ⟨W', w, h1, Or.inl (by omega)⟩
  · exact Or.inr ⟨W', w, h1, Or.inr ⟨z, h2, h3, h4⟩⟩
section RND
variable {N : Nat} {X : Nat → Option zz_C} {t t' : cS} {s s' : mS} {b : Nat → Nat} {n p e i op D : Nat} {code code1 code2 fl : List Ins} {vs : List (List Nat)} {cl : List Cn} {W W' : List Wt} {cu : List Nat} {fs : Nat × Nat × Nat} {al : Int32} {Z : List (Nat × Nat)} {ah : Option (Nat × Nat)}
theorem RA_tw : ∀ (l : List (Nat × Nat)) {code : List Ins}, wfC code → RA e (code ++ l.map twI) = RA e code ++ l.map od ∧ wfC (code ++ l.map twI)
  | [], code, h => by
    show RA e (code ++ []) = RA e code ++ [] ∧ wfC (code ++ [])
    rw [List.append_nil, List.append_nil]
    exact ⟨rfl, h⟩
  | z :: l, code, h => by
    have h1 : wfC (code ++ [twI z]) := wfC_app h (Or.inr (Or.inl (Nat.zero_le _)))
    obtain ⟨i1, i2⟩ := RA_tw l h1
    have e1 : code ++ (z :: l).map twI = (code ++ [twI z]) ++ l.map twI := by
      rw [List.append_assoc]
      rfl
    rw [e1, i1, RA_app h (Or.inr (Or.inl (Nat.zero_le _))), List.append_assoc]
    exact ⟨rfl, i2⟩
theorem rl_tw : ∀ (l : List (Nat × Nat)), rl (l.map twI) = l.length
  | [] => rfl
  | z :: l => by
    have := rl_tw l
    show rl ([twI z] ++ l.map twI) = _
    rw [rl_app, this, rl_one, List.length_cons]
    show 1 + l.length = l.length + 1
    omega
/-- orders and waits changed, nothing else -/
def fOW (e : Nat) (s s' : mS) : Prop := (∀ q, ¬ (q = 44 ∨ q = 28) → s'.1 q = s.1 q) ∧ (∀ q, s'.2.1 q = s.2.1 q) ∧ (∀ q, ¬ (q = 23 ∨ q = 24 ∨ q = 25 ∨ q = 26 ∨ q = 27 ∨ q = 38 ∨ q = 39 ∨ q = 40 ∨ q = 41 ∨ q = 43) → s'.2.2.1 q = s.2.2.1 q) ∧ (∀ q, ¬ q = 42 → s'.2.2.2 q = s.2.2.2 q) ∧ ∀ q y, (q = 23 ∨ q = 24 ∨ q = 25 ∨ q = 26 ∨ q = 27) → (y < ob0 e ∨ ob0 e + 4000 ≤ y) → s'.2.2.1 q y = s.2.2.1 q y
theorem PE.rw2 (h : PE b n p e i op D code code1 vs cl W cu fs t s) (h1 : rCd s' e (RA e code2)) (h2 : rW s' W') (f : fOW e s s') (hw : wfC code2) (hf : code = code2 ++ fl) : PE b n p e i op D code code2 vs cl W' cu fs t s' ∧ FR p e t t s s' := by
  obtain ⟨g1, hc', hr, ⟨w1, w2, w3⟩, hW, hV, k1, k2, k3, k4, k5, k6, k7⟩ := h
  exact ⟨⟨g1.kR (fun q z => f.1 q (by omega)) (f.2.1 7) (f.2.2.1 2 (by omega)) (f.2.2.2.1 0 (by omega)), hc', h1, ⟨w1, hw, ⟨fl, hf⟩⟩, h2, hV.keep rfl rfl (f.1 22 (by omega)) (f.2.2.2.1 21 (by omega)), k1, k2.keep (f.1 29 (by omega)) (fun q _ => f.2.2.1 q (by omega)) (f.2.2.2.1 33 (by omega)), k3, k4, k5, k6, k7⟩, gL.rf, ⟨fun q r => f.1 q (by omega), fun q _ => f.2.1 q, fun q r => f.2.2.1 q (by omega), fun q r => f.2.2.2.1 q (by omega), fun q y r1 r2 => f.2.2.2.2 q y r1 r2, fun _ => ⟨_, h2⟩⟩⟩
theorem PEg.rle {cp : List Cn} (h : PEg b n p e i op D code code1 vs cl cp W cu fs t s) : rl code ≤ 1601 := by
  have h1 := h.2.2.2.2.2.2.2.2.2.2.1
  obtain ⟨hi, e5, e6, e7, hk, ho, he, hlt, hll⟩ := h.1.now
  omega
theorem PE.rle (h : PE b n p e i op D code code1 vs cl W cu fs t s) : rl code ≤ 1601 := PEg.rle h
/-- signs are written -/
theorem PE.rd {l : Nat} (hN : 170000 ≤ N) (h : PE b n p e i op D code code1 vs cl (W ++ Z.map bt) cu fs t s) (hl : l ≤ 3) (hs : stp l W) (hz : ∀ z ∈ Z, okS z.1 ∧ l ≤ lv z.1 ∧ lv z.1 ≤ 3) (hf : code = code1 ++ Z.reverse.map twI ++ fl) : ∃ s', mf_284 N (Int32.ofNat l) s = some (s', none) ∧ PE b n p e i op D code (code1 ++ Z.reverse.map twI) vs cl W cu fs t s' ∧ FR p e t t s s' := by
  have h1 := h.rle
  have h2 : rl code = rl code1 + Z.length + rl fl := by
    rw [hf, rl_app, rl_app, rl_tw, List.length_reverse]
  have h3 := h.2.2.2.2.1.2.1
  rw [List.length_append, List.length_map] at h3
  obtain ⟨s', a1, a2, a3, a4, a5, a6⟩ := r_reduce (N := N) (e := e) hl hs Z (N - (Z.length + 1)) s (RA e code1) h.2.2.2.2.1 h.2.2.1 (by rw [RA_len]; omega) hz
  rw [show N - (Z.length + 1) + (Z.length + 1) = N by omega] at a1
  obtain ⟨t1, t2⟩ := RA_tw (e := e) Z.reverse h.2.2.2.1.2.1
  obtain ⟨c1, c2⟩ := h.rw2 (s' := s') (code2 := code1 ++ Z.reverse.map twI) (W' := W) (by rw [t1]; exact a3) a2 ⟨a5, a6.2.1, fun q r => a6.2.2.1 q (by omega), fun q _ => a6.2.2.2.1 q, fun q y _ r => a6.2.2.2.2 q y r⟩ t2 hf
  exact ⟨s', a1, c1, c2⟩
/-- a sign ahead is written -/
theorem PE.ahf (h : PE b n p e i op D code code1 vs cl (W ++ ahW ah) cu fs t s) (hA : okA ah) (hf : code = code1 ++ ahI ah ++ fl) (hn : ∀ W' w, W = W' ++ [w] → ¬ w.1 = 2) : ∃ s', (∀ rc, mf_285_70 N rc al s = mf_285_113 N rc al s') ∧ PE b n p e i op D code (code1 ++ ahI ah) vs cl W cu fs t s' ∧ FR p e t t s s' := by
  cases ah with
  | none =>
    have h : PE b n p e i op D code code1 vs cl (W ++ []) cu fs t s := h
    rw [List.append_nil] at h
    refine ⟨s, fun rc => ?_, by show PE b n p e i op D code (code1 ++ []) vs cl W cu fs t s; rw [List.append_nil]; exact h, FR.rf⟩
    rcases List.eq_nil_or_concat W with c | ⟨W', w, c⟩
    · subst c
      have i0 := r_isW0 (N := N) (k := 2) h.2.2.2.2.1
      unfold mf_285_70 mf_285_75
      simp (disch := omega) only [ev_S, ev_P, ↓reduceIte, Nat.reduceEqDiff, Nat.reduceLeDiff, Nat.reduceAdd, Nat.reduceMul, Nat.reduceSub, reduceCtorEq, l32_0, l32_1, l32_2, l32_3, l32_4, l32_5, l32_6, l32_7, l32_8, l32_9, l32_10, i0]
    · rw [List.concat_eq_append] at c
      have h5 := h.2.2.2.2.1
      rw [c] at h5
      have i0 := r_isW (N := N) (k := 2) h5 (by decide)
      rw [if_neg (hn W' w c)] at i0
      unfold mf_285_70 mf_285_75
      simp (disch := omega) only [ev_S, ev_P, ↓reduceIte, Nat.reduceEqDiff, Nat.reduceLeDiff, Nat.reduceAdd, Nat.reduceMul, Nat.reduceSub, reduceCtorEq, l32_0, l32_1, l32_2, l32_3, l32_4, l32_5, l32_6, l32_7, l32_8, l32_9, l32_10, i0]
  | some z =>
    have hz : z.1 = 45 ∨ z.1 = 33 := hA
    have h5 : rW s (W ++ [(2, z.1, 0, z.2, 0, 0)]) := h.2.2.2.2.1
    have i0 := r_isW (N := N) (k := 2) h5 (by decide)
    rw [if_pos rfl] at i0
    have h5' := h5
    obtain ⟨h1, h2, h3⟩ := h5'
    have ll : (W ++ [(2, z.1, 0, z.2, (0 : Int64), 0)]).length = W.length + 1 := List.length_append
    rw [ll] at h1 h2
    obtain ⟨q1, q2, q3, q4, q5, q6⟩ := h3 W.length (by rw [ll]; omega)
    rw [List.getElem_append_right (Nat.le_refl _)] at q2 q4
    simp only [Nat.sub_self, List.getElem_cons_zero] at q2 q4
    have hr := h.rle
    have hlen : rl code = rl code1 + rl (ahI (some z)) + rl fl := by
      rw [hf, rl_app, rl_app]
    obtain ⟨s1, a1, a2, a3⟩ := r_order (N := N) (x1 := Int32.ofNat 4) (x2 := Int32.ofNat z.1) (x3 := Int32.ofNat 0) (x4 := Int32.ofNat z.2) (rCd.pop (x := Int32.ofNat W.length) h.2.2.1) (by rw [RA_len]; omega)
    have eI : rI e code1 (if z.1 = 45 then 3 else 4, 0, 0, 0, Int32.ofNat z.2, 0, 0) = [(Int32.ofNat 4, Int32.ofNat z.1, Int32.ofNat 0, 0, Int32.ofNat z.2)] := by
      rcases hz with z1 | z1 <;> rw [z1] <;> rfl
    have tg : tgO code1.length (if z.1 = 45 then 3 else 4, 0, 0, 0, Int32.ofNat z.2, 0, 0) := Or.inr (Or.inl (Nat.zero_le _))
    have hw := h.2.2.2.1.2.1
    have hp := h5.pop
    obtain ⟨c1, c2⟩ := h.rw2 (s' := s1) (code2 := code1 ++ ahI (some z)) (W' := W) (fl := fl) (by show rCd s1 e (RA e (code1 ++ [_])); rw [RA_app hw tg, eI]; exact a2) (hp.keep (a3.1 44 (by omega)) (fun q _ => a3.2.2.1 q (by omega)) (a3.2.2.2.1 42)) ⟨fun q r => (a3.1 q (by omega)).trans (if_neg (by omega)), a3.2.1, fun q r => a3.2.2.1 q (by omega), fun q _ => a3.2.2.2.1 q, fun q y _ r => a3.2.2.2.2 q y r⟩ (wfC_app hw (Or.inr (Or.inl (Nat.zero_le _)))) hf
    refine ⟨s1, fun rc => ?_, c1, c2⟩
    unfold mf_285_70 mf_285_75 mf_285_78 mf_285_112
    simp (disch := omega) only [ev_S, ev_P, ↓reduceIte, Nat.reduceEqDiff, Nat.reduceLeDiff, Nat.reduceAdd, Nat.reduceMul, Nat.reduceSub, reduceCtorEq, l32_0, l32_1, l32_2, l32_3, l32_4, l32_5, l32_6, l32_7, l32_8, l32_9, l32_10, i0, h1, q2, q4, a1]
end RND
