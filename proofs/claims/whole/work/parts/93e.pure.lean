/-! ===== PURE: statements (4): instructions of several acts; assignments ===== -/
section EMM
variable {N : Nat} {X : Nat → Option zz_C} {t t' t1 t2 : cS} {s s' s1 s2 : mS} {b : Nat → Nat} {n p e i op D D' : Nat} {code code1 : List Ins} {vs : List (List Nat)} {cl : List Cn} {W : List Wt} {cu cu' : List Nat} {fs : Nat × Nat × Nat} {Bs : List (Int32 × Int32 × Int32)} {L : List R5} {LC : List C3}
theorem rCd.setc {m : Nat} {v : Int32} (h : rCd s e L) (hm : m < L.length) : rCd (mA s 26 (upd (s.2.2.1 26) (ob0 e + m) v)) e (L.set m (L[m].1, L[m].2.1, L[m].2.2.1, v, L[m].2.2.2.2)) ∧ fO e s (mA s 26 (upd (s.2.2.1 26) (ob0 e + m) v)) := by
  obtain ⟨h1, h2, h3, h4, h5⟩ := h
  have ls : (L.set m (L[m].1, L[m].2.1, L[m].2.2.1, v, L[m].2.2.2.2)).length = L.length := List.length_set
  refine ⟨⟨h1, h2, by rw [ls]; exact h3, by rw [ls]; exact h4, fun i hi => ?_⟩, ⟨fun _ _ => rfl, fun _ => rfl, fun q r => if_neg (by omega), fun _ => rfl, fun q y r => ?_⟩⟩
  · have hi' : i < L.length := by rw [ls] at hi; exact hi
    obtain ⟨q1, q2, q3, q4, q5⟩ := h5 i hi'
    by_cases c : i = m
    · subst c
      rw [List.getElem_set_self]
      exact ⟨q1, q2, q3, if_pos rfl, q5⟩
    · rw [List.getElem_set_ne (by omega)]
      exact ⟨q1, q2, q3, (upd_n (by omega)).trans q4, q5⟩
  · show (if q = 26 then upd (s.2.2.1 26) (ob0 e + m) v else s.2.2.1 q) y = _
    split
    · rename_i z
      rw [upd_n (by omega), z]
    · rfl
theorem rCd.setd {m : Nat} {v : Int32} (h : rCd s e L) (hm : m < L.length) : rCd (mA s 27 (upd (s.2.2.1 27) (ob0 e + m) v)) e (L.set m (L[m].1, L[m].2.1, L[m].2.2.1, L[m].2.2.2.1, v)) ∧ fO e s (mA s 27 (upd (s.2.2.1 27) (ob0 e + m) v)) := by
  obtain ⟨h1, h2, h3, h4, h5⟩ := h
  have ls : (L.set m (L[m].1, L[m].2.1, L[m].2.2.1, L[m].2.2.2.1, v)).length = L.length := List.length_set
  refine ⟨⟨h1, h2, by rw [ls]; exact h3, by rw [ls]; exact h4, fun i hi => ?_⟩, ⟨fun _ _ => rfl, fun _ => rfl, fun q r => if_neg (by omega), fun _ => rfl, fun q y r => ?_⟩⟩
  · have hi' : i < L.length := by rw [ls] at hi; exact hi
    obtain ⟨q1, q2, q3, q4, q5⟩ := h5 i hi'
    by_cases c : i = m
    · subst c
      rw [List.getElem_set_self]
      exact ⟨q1, q2, q3, q4, if_pos rfl⟩
    · rw [List.getElem_set_ne (by omega)]
      exact ⟨q1, q2, q3, q4, (upd_n (by omega)).trans q5⟩
  · show (if q = 27 then upd (s.2.2.1 27) (ob0 e + m) v else s.2.2.1 q) y = _
    split
    · rename_i z
      rw [upd_n (by omega), z]
    · rfl
theorem c_emit2 {k1 a1 v1 k2 a2 v2 : Int32} (h : cCd t p LC) (h8 : rmG t) (hl : LC.length + 2 < 6500) : ∃ t1 t2, cf_209 N X p k1 a1 v1 t = some (t1, .inl (some (.int (Int32.ofNat LC.length)))) ∧ cf_209 N X p k2 a2 v2 t1 = some (t2, .inl (some (.int (Int32.ofNat (LC.length + 1))))) ∧ kP t1 2 1 = some p ∧ cCd t2 p (LC ++ [(k1, a1, v1), (k2, a2, v2)]) ∧ gL (eC p) (aC p) t t2 ∧ kL t2 = kL t := by
  obtain ⟨t1, b1, b2, b3, b4⟩ := c_emit (N := N) (X := X) (k := k1) (a := a1) (v := v1) h h8 (by omega)
  obtain ⟨t2, c1, c2, c3, c4⟩ := c_emit (N := N) (X := X) (k := k2) (a := a2) (v := v2) b2 (b3.rm h8) (by rw [List.length_append, List.length_singleton]; omega)
  rw [List.length_append, List.length_singleton] at c1
  rw [List.append_assoc] at c2
  exact ⟨t1, t2, b1, c1, b2.1, c2, b3.tr c3, c4.trans b4⟩
/-- two acts, one order -/
theorem PE.bo2 {c : Ins} {js : Nat} {k1 a1 v1 k2 a2 v2 x1 x2 x3 x4 : Int32} (h : PE b n p e i op D code code vs cl W cu fs t s) (hcv : ¬ (c.1 = 9 ∨ c.1 = 10)) (hjs : (js = fs.2.1 ∧ noJ c) ∨ js = code.length + 1) (hI : cI code (posC code code.length) c = [(k1, a1, v1), (k2, a2, v2)]) (hR : rI e code c = [(x1, x2, x3, 0, x4)]) (hc : tgO code.length c) (he : eff c cu = some cu') (ho : okI vs.length c) (hD : D' + 1 ≤ D) (hD2 : rlen c + xlen c ≤ 1 ∨ D' + (rlen c + xlen c) ≤ D) : ∃ t1 t2 s', cf_209 N X p k1 a1 v1 t = some (t1, .inl (some (.int (Int32.ofNat (cx code))))) ∧ kP t1 2 1 = some p ∧ cf_209 N X p k2 a2 v2 t1 = some (t2, .inl (some (.int (Int32.ofNat (cx code + 1))))) ∧ mf_271 N x1 x2 x3 x4 s = some (s', some (.int (Int32.ofNat (ob0 e + rl code)))) ∧ PE b n p e i op D' (code ++ [c]) (code ++ [c]) vs cl W cu' (fs.1, js, fs.2.2) t2 s' ∧ FR p e t t2 s s' ∧ fO e s s' := by
  have hrl := h.rle
  have hcx := h.2.2.2.2.2.2.2.2.2.2.2.2
  obtain ⟨hi, e5, e6, e7, hkk, ho', he', hlt, hll⟩ := h.1.now
  obtain ⟨t1, t2, a1, a2, a3, a4, a5, a6⟩ := c_emit2 (N := N) (X := X) (k1 := k1) (a1 := a1) (v1 := v1) (k2 := k2) (a2 := a2) (v2 := v2) h.2.1 h.1.1.2.2.2.2.2.2.2 (by rw [CA_len]; omega)
  rw [CA_len] at a1 a2
  obtain ⟨b1, b2⟩ := PEg.cEm h (fun z => absurd z hcv) hjs hc he ho (by rw [hI]; exact a4) a5 a6 hD hD2
  obtain ⟨s', d1, d2, d3⟩ := r_order (N := N) (x1 := x1) (x2 := x2) (x3 := x3) (x4 := x4) b1.2.2.1 (by rw [RA_len]; omega)
  rw [RA_len] at d1
  obtain ⟨c1, c2⟩ := PEg.rEm (fl := []) (s' := s') b1 hc rfl (by rw [hR]; exact d2) d3
  exact ⟨t1, t2, s', a1, a3, a2, d1, c1, b2.tr c2, d3⟩
/-- two acts, no order -/
theorem PE.co2 {c : Ins} {k1 a1 v1 k2 a2 v2 : Int32} (h : PE b n p e i op D code code vs cl W cu fs t s) (hx : xp c) (hI : cI code (posC code code.length) c = [(k1, a1, v1), (k2, a2, v2)]) (hR : rI e code c = []) (hc : tgO code.length c) (he : eff c cu = some cu') (ho : okI vs.length c) (hD : D' + 1 ≤ D) (hD2 : rlen c + xlen c ≤ 1 ∨ D' + (rlen c + xlen c) ≤ D) : ∃ t1 t2, cf_209 N X p k1 a1 v1 t = some (t1, .inl (some (.int (Int32.ofNat (cx code))))) ∧ kP t1 2 1 = some p ∧ cf_209 N X p k2 a2 v2 t1 = some (t2, .inl (some (.int (Int32.ofNat (cx code + 1))))) ∧ PE b n p e i op D' (code ++ [c]) (code ++ [c]) vs cl W cu' fs t2 s ∧ FR p e t t2 s s := by
  have hcx := h.2.2.2.2.2.2.2.2.2.2.2.2
  obtain ⟨hi, e5, e6, e7, hkk, ho', he', hlt, hll⟩ := h.1.now
  obtain ⟨t1, t2, a1, a2, a3, a4, a5, a6⟩ := c_emit2 (N := N) (X := X) (k1 := k1) (a1 := a1) (v1 := v1) (k2 := k2) (a2 := a2) (v2 := v2) h.2.1 h.1.1.2.2.2.2.2.2.2 (by rw [CA_len]; omega)
  rw [CA_len] at a1 a2
  obtain ⟨b1, b2⟩ := h.cEm hc he ho (by rw [hI]; exact a4) a5 a6 hD hD2 hx
  obtain ⟨c1, c2⟩ := b1.rEm (fl := []) (s' := s) hc rfl (by rw [hR, List.append_nil]; exact b1.2.2.1) fO.rf
  exact ⟨t1, t2, a1, a3, a2, c1, b2.tr c2⟩
/-- what is put at a place of a variable's THING: three acts, one order -/
theorem PE.put {r j : Nat} {x y q : Int32} (h : PE b n p e i op D code code vs cl W (List.replicate (j + 1) 0 ++ 5 :: cu) fs t s) (hj : j = 1 ∨ j = 2) (hy : j = 2 → ¬ y = -Int32.ofNat 1) (hr : r < 8 + vs.length) (hD : D' + 3 ≤ D) : ∃ t1 t2 t3 s1 s2, cf_209 N X p (Int32.ofNat 1) (cv r) x t = some (t1, .inl (some (.int (Int32.ofNat (cx code))))) ∧ kP t1 2 1 = some p ∧ cf_209 N X p (if j = 1 then Int32.ofNat 17 else Int32.ofNat 18) y q t1 = some (t2, .inl (some (.int (Int32.ofNat (cx code + 1))))) ∧ kP t2 2 1 = some p ∧ cf_209 N X p (Int32.ofNat 2) (cv r) x t2 = some (t3, .inl (some (.int (Int32.ofNat (cx code + 2))))) ∧ mf_271 N (Int32.ofNat 13) (Int32.ofNat r) (if j = 1 then -Int32.ofNat 1 else y) q s = some (s1, some (.int (Int32.ofNat (ob0 e + rl code)))) ∧ s2 = mA s1 26 (upd (s1.2.2.1 26) (ob0 e + rl code) x) ∧ PE b n p e i op D' (code ++ [(12, j, r, 0, q, x, y)]) (code ++ [(12, j, r, 0, q, x, y)]) vs cl W cu fs t3 s2 ∧ FR p e t t3 s s2 := by
  have hrl := h.rle
  have hcx := h.2.2.2.2.2.2.2.2.2.2.2.2
  have hrm : rmG t := h.1.1.2.2.2.2.2.2.2
  obtain ⟨hi, e5, e6, e7, hkk, ho', he', hlt, hll⟩ := h.1.now
  obtain ⟨t1, t2, a1, a2, a3, a4, a5, a6⟩ := c_emit2 (N := N) (X := X) (k1 := Int32.ofNat 1) (a1 := cv r) (v1 := x) (k2 := if j = 1 then Int32.ofNat 17 else Int32.ofNat 18) (a2 := y) (v2 := q) h.2.1 hrm (by rw [CA_len]; omega)
  rw [CA_len] at a1 a2
  obtain ⟨t3, c1, c2, c3, c4⟩ := c_emit (N := N) (X := X) (k := Int32.ofNat 2) (a := cv r) (v := x) a4 (a5.rm hrm) (by rw [List.length_append, CA_len]; show cx code + 2 < 6500; omega)
  rw [List.length_append, CA_len] at c1
  have c1 : cf_209 N X p (Int32.ofNat 2) (cv r) x t2 = some (t3, .inl (some (.int (Int32.ofNat (cx code + 2))))) := c1
  rw [List.append_assoc] at c2
  have hc : tgO code.length (12, j, r, 0, q, x, y) := Or.inr (Or.inr (by simp))
  have hI : cI code (posC code code.length) (12, j, r, 0, q, x, y) = [(Int32.ofNat 1, cv r, x), (if j = 1 then Int32.ofNat 17 else Int32.ofNat 18, y, q), (Int32.ofNat 2, cv r, x)] := rfl
  obtain ⟨b1, b2⟩ := h.cEm (c := (12, j, r, 0, q, x, y)) (t' := t3) (cu' := cu) (D' := D') hc (by rcases hj with rfl | rfl <;> rfl) ⟨fun _ => hr, fun z => (by cases z), fun z => (by cases z), fun z => (by cases z), fun _ => ⟨hj, hy⟩, fun z => (by cases z), fun z => (by cases z)⟩ (by rw [hI]; exact c2) (a5.tr c3) (c4.trans a6) (by omega) (Or.inr (by show D' + (1 + j) ≤ D; omega))
  obtain ⟨s1, d1, d2, d3⟩ := r_order (N := N) (x1 := Int32.ofNat 13) (x2 := Int32.ofNat r) (x3 := if j = 1 then -Int32.ofNat 1 else y) (x4 := q) b1.2.2.1 (by rw [RA_len]; omega)
  obtain ⟨f1, f2⟩ := d2.setc (m := rl code) (v := x) (by rw [List.length_append, RA_len, List.length_singleton]; omega)
  rw [RA_len] at d1
  have hset : (RA e code ++ [(Int32.ofNat 13, Int32.ofNat r, (if j = 1 then -Int32.ofNat 1 else y), (0 : Int32), q)]).set (rl code) (Int32.ofNat 13, Int32.ofNat r, (if j = 1 then -Int32.ofNat 1 else y), x, q) = RA e code ++ [(Int32.ofNat 13, Int32.ofNat r, (if j = 1 then -Int32.ofNat 1 else y), x, q)] := by
    rw [List.set_append_right _ _ (by rw [RA_len]; omega), RA_len, Nat.sub_self]
    rfl
  have hget : ∀ (hh : rl code < (RA e code ++ [(Int32.ofNat 13, Int32.ofNat r, (if j = 1 then -Int32.ofNat 1 else y), (0 : Int32), q)]).length), (RA e code ++ [(Int32.ofNat 13, Int32.ofNat r, (if j = 1 then -Int32.ofNat 1 else y), (0 : Int32), q)])[rl code] = (Int32.ofNat 13, Int32.ofNat r, (if j = 1 then -Int32.ofNat 1 else y), (0 : Int32), q) := fun hh => by
    rw [List.getElem_append_right (by rw [RA_len]; omega)]
    simp only [RA_len, Nat.sub_self, List.getElem_cons_zero]
  rw [hget] at f1
  have f1 : rCd (mA s1 26 (upd (s1.2.2.1 26) (ob0 e + rl code) x)) e ((RA e code ++ [(Int32.ofNat 13, Int32.ofNat r, (if j = 1 then -Int32.ofNat 1 else y), (0 : Int32), q)]).set (rl code) (Int32.ofNat 13, Int32.ofNat r, (if j = 1 then -Int32.ofNat 1 else y), x, q)) := f1
  rw [hset] at f1
  obtain ⟨g1, g2⟩ := b1.rEm (fl := []) (s' := mA s1 26 (upd (s1.2.2.1 26) (ob0 e + rl code) x)) hc rfl f1 (d3.tr f2)
  exact ⟨t1, t2, t3, s1, _, a1, a3, a2, a4.1, c1, d1, rfl, g1, b2.tr g2⟩
end EMM
