/-! ===== PURE: the reference's orders ===== -/
abbrev R5 : Type := Int32 × Int32 × Int32 × Int32 × Int32
abbrev ob0 (e : Nat) : Nat := 4000 * (1 - e)
/-- the reference's orders of the half that is written -/
def rCd (s : mS) (e : Nat) (L : List R5) : Prop := s.1 12 = Int32.ofNat e ∧ e ≤ 1 ∧ s.1 28 = Int32.ofNat L.length ∧ L.length ≤ 3900 ∧ ∀ i (hi : i < L.length), s.2.2.1 23 (ob0 e + i) = L[i].1 ∧ s.2.2.1 24 (ob0 e + i) = L[i].2.1 ∧ s.2.2.1 25 (ob0 e + i) = L[i].2.2.1 ∧ s.2.2.1 26 (ob0 e + i) = L[i].2.2.2.1 ∧ s.2.2.1 27 (ob0 e + i) = L[i].2.2.2.2
/-- what writing orders leaves -/
def fO (e : Nat) (s s' : mS) : Prop := (∀ q, ¬ q = 28 → s'.1 q = s.1 q) ∧ (∀ q, s'.2.1 q = s.2.1 q) ∧ (∀ q, ¬ (q = 23 ∨ q = 24 ∨ q = 25 ∨ q = 26 ∨ q = 27) → s'.2.2.1 q = s.2.2.1 q) ∧ (∀ q, s'.2.2.2 q = s.2.2.2 q) ∧ ∀ q y, (y < ob0 e ∨ ob0 e + 4000 ≤ y) → s'.2.2.1 q y = s.2.2.1 q y
theorem fO.rf {e : Nat} {s : mS} : fO e s s := ⟨fun _ _ => rfl, fun _ => rfl, fun _ _ => rfl, fun _ => rfl, fun _ _ _ => rfl⟩
theorem fO.tr {e : Nat} {s s1 s2 : mS} (h : fO e s s1) (g : fO e s1 s2) : fO e s s2 := ⟨fun q r => (g.1 q r).trans (h.1 q r), fun q => (g.2.1 q).trans (h.2.1 q), fun q r => (g.2.2.1 q r).trans (h.2.2.1 q r), fun q => (g.2.2.2.1 q).trans (h.2.2.2.1 q), fun q y r => (g.2.2.2.2 q y r).trans (h.2.2.2.2 q y r)⟩
section ORD
variable {N : Nat} {s : mS} {e : Nat} {L : List R5}
theorem get_app5 {v : R5} {o : Nat} {g1 g2 g3 g4 g5 : Nat → Int32} (h : ∀ i (hi : i < L.length), g1 (o + i) = L[i].1 ∧ g2 (o + i) = L[i].2.1 ∧ g3 (o + i) = L[i].2.2.1 ∧ g4 (o + i) = L[i].2.2.2.1 ∧ g5 (o + i) = L[i].2.2.2.2) (hv : g1 (o + L.length) = v.1 ∧ g2 (o + L.length) = v.2.1 ∧ g3 (o + L.length) = v.2.2.1 ∧ g4 (o + L.length) = v.2.2.2.1 ∧ g5 (o + L.length) = v.2.2.2.2) : ∀ i (hi : i < (L ++ [v]).length), g1 (o + i) = (L ++ [v])[i].1 ∧ g2 (o + i) = (L ++ [v])[i].2.1 ∧ g3 (o + i) = (L ++ [v])[i].2.2.1 ∧ g4 (o + i) = (L ++ [v])[i].2.2.2.1 ∧ g5 (o + i) = (L ++ [v])[i].2.2.2.2 := fun i hi => by
  rw [List.length_append] at hi
  have hi : i < L.length + 1 := hi
  by_cases c : i < L.length
  · rw [List.getElem_append_left c]
    exact h i c
  · have e : i = L.length := by omega
    subst e
    rw [List.getElem_append_right (Nat.le_refl _)]
    simp only [Nat.sub_self, List.getElem_cons_zero]
    exact hv
theorem r_order {x1 x2 x3 x4 : Int32} (h : rCd s e L) (hl : L.length < 3900) : ∃ s', mf_271 N x1 x2 x3 x4 s = some (s', some (.int (Int32.ofNat (ob0 e + L.length)))) ∧ rCd s' e (L ++ [(x1, x2, x3, 0, x4)]) ∧ fO e s s' := by
  obtain ⟨h1, h2, h3, h4, h5⟩ := h
  have ll : (L ++ [(x1, x2, x3, (0 : Int32), x4)]).length = L.length + 1 := List.length_append
  have hb : ob0 e ≤ 4000 := by show 4000 * (1 - e) ≤ 4000; omega
  have e4 : Int32.ofNat 4000 * Int32.ofNat (1 - e) = Int32.ofNat (ob0 e) := i32mul
  generalize hB : ob0 e = B at *
  refine ⟨mI (mA (mA (mA (mA (mA s 23 (upd (s.2.2.1 23) (B + L.length) x1)) 24 (upd (s.2.2.1 24) (B + L.length) x2)) 25 (upd (s.2.2.1 25) (B + L.length) x3)) 26 (upd (s.2.2.1 26) (B + L.length) (Int32.ofNat 0))) 27 (upd (s.2.2.1 27) (B + L.length) x4)) 28 (Int32.ofNat (L.length + 1)), ?_, ⟨h1, h2, by rw [ll]; rfl, by rw [ll]; omega, ?_⟩, ⟨fun q r => if_neg r, fun _ => rfl, fun q r => ?_, fun _ => rfl, fun q y r => ?_⟩⟩
  · have e9 : Int32.ofNat 1 - Int32.ofNat e = Int32.ofNat (1 - e) := ev_sub h2
    unfold mf_271 mf_271_0
    simp (disch := omega) only [h1, h3, l32_1, l32_4000, e9, e4, i32add, ev_c, ev_lt, l32_0, ev_ltF, ev_leF, or_self, not_false_eq_true, ↓reduceIte, ev_P, Nat.reduceEqDiff]
  · rw [hB]
    refine get_app5 (fun i hi => ?_) ⟨if_pos rfl, if_pos rfl, if_pos rfl, if_pos rfl, if_pos rfl⟩
    obtain ⟨q1, q2, q3, q4, q5⟩ := h5 i hi
    refine ⟨?_, ?_, ?_, ?_, ?_⟩
    · show upd (s.2.2.1 23) (B + L.length) x1 (B + i) = _
      rw [upd_n (by omega)]
      exact q1
    · show upd (s.2.2.1 24) (B + L.length) x2 (B + i) = _
      rw [upd_n (by omega)]
      exact q2
    · show upd (s.2.2.1 25) (B + L.length) x3 (B + i) = _
      rw [upd_n (by omega)]
      exact q3
    · show upd (s.2.2.1 26) (B + L.length) _ (B + i) = _
      rw [upd_n (by omega)]
      exact q4
    · show upd (s.2.2.1 27) (B + L.length) x4 (B + i) = _
      rw [upd_n (by omega)]
      exact q5
  · show (if q = 27 then _ else if q = 26 then _ else if q = 25 then _ else if q = 24 then _ else if q = 23 then _ else s.2.2.1 q) = _
    rw [if_neg (by omega), if_neg (by omega), if_neg (by omega), if_neg (by omega), if_neg (by omega)]
  · rw [hB] at r
    have hu : ∀ (g : Nat → Int32) (v : Int32), upd g (B + L.length) v y = g y := fun g v => upd_n (by omega)
    show (if q = 27 then upd (s.2.2.1 27) (B + L.length) x4 else if q = 26 then upd (s.2.2.1 26) (B + L.length) (Int32.ofNat 0) else if q = 25 then upd (s.2.2.1 25) (B + L.length) x3 else if q = 24 then upd (s.2.2.1 24) (B + L.length) x2 else if q = 23 then upd (s.2.2.1 23) (B + L.length) x1 else s.2.2.1 q) y = _
    split
    · rename_i z
      rw [hu, z]
    · split
      · rename_i z
        rw [hu, z]
      · split
        · rename_i z
          rw [hu, z]
        · split
          · rename_i z
            rw [hu, z]
          · split
            · rename_i z
              rw [hu, z]
            · rfl
theorem r_here (h : rCd s e L) : mf_272 N s = some (s, some (.int (Int32.ofNat (ob0 e + L.length)))) := by
  obtain ⟨h1, h2, h3, h4, h5⟩ := h
  have e9 : Int32.ofNat 1 - Int32.ofNat e = Int32.ofNat (1 - e) := ev_sub h2
  have e4 : Int32.ofNat 4000 * Int32.ofNat (1 - e) = Int32.ofNat (ob0 e) := i32mul
  unfold mf_272 mf_272_0
  simp (disch := omega) only [h1, h3, l32_1, l32_4000, e9, e4, i32add]
/-- oa, ob, op1 of an order told anew -/
theorem rCd.seta {m : Nat} {v : Int32} (h : rCd s e L) (hm : m < L.length) : rCd (mA s 24 (upd (s.2.2.1 24) (ob0 e + m) v)) e (L.set m (L[m].1, v, L[m].2.2)) ∧ fO e s (mA s 24 (upd (s.2.2.1 24) (ob0 e + m) v)) := by
  obtain ⟨h1, h2, h3, h4, h5⟩ := h
  have ls : (L.set m (L[m].1, v, L[m].2.2)).length = L.length := List.length_set
  refine ⟨⟨h1, h2, by rw [ls]; exact h3, by rw [ls]; exact h4, fun i hi => ?_⟩, ⟨fun _ _ => rfl, fun _ => rfl, fun q r => if_neg (by omega), fun _ => rfl, fun q y r => ?_⟩⟩
  · have hi' : i < L.length := by rw [ls] at hi; exact hi
    obtain ⟨q1, q2, q3, q4, q5⟩ := h5 i hi'
    by_cases c : i = m
    · subst c
      rw [List.getElem_set_self]
      exact ⟨q1, if_pos rfl, q3, q4, q5⟩
    · rw [List.getElem_set_ne (by omega)]
      exact ⟨q1, (upd_n (by omega)).trans q2, q3, q4, q5⟩
  · show (if q = 24 then upd (s.2.2.1 24) (ob0 e + m) v else s.2.2.1 q) y = _
    split
    · rename_i z
      rw [upd_n (by omega), z]
    · rfl
theorem rCd.setb {m : Nat} {v : Int32} (h : rCd s e L) (hm : m < L.length) : rCd (mA s 25 (upd (s.2.2.1 25) (ob0 e + m) v)) e (L.set m (L[m].1, L[m].2.1, v, L[m].2.2.2)) ∧ fO e s (mA s 25 (upd (s.2.2.1 25) (ob0 e + m) v)) := by
  obtain ⟨h1, h2, h3, h4, h5⟩ := h
  have ls : (L.set m (L[m].1, L[m].2.1, v, L[m].2.2.2)).length = L.length := List.length_set
  refine ⟨⟨h1, h2, by rw [ls]; exact h3, by rw [ls]; exact h4, fun i hi => ?_⟩, ⟨fun _ _ => rfl, fun _ => rfl, fun q r => if_neg (by omega), fun _ => rfl, fun q y r => ?_⟩⟩
  · have hi' : i < L.length := by rw [ls] at hi; exact hi
    obtain ⟨q1, q2, q3, q4, q5⟩ := h5 i hi'
    by_cases c : i = m
    · subst c
      rw [List.getElem_set_self]
      exact ⟨q1, q2, if_pos rfl, q4, q5⟩
    · rw [List.getElem_set_ne (by omega)]
      exact ⟨q1, q2, (upd_n (by omega)).trans q3, q4, q5⟩
  · show (if q = 25 then upd (s.2.2.1 25) (ob0 e + m) v else s.2.2.1 q) y = _
    split
    · rename_i z
      rw [upd_n (by omega), z]
    · rfl
end ORD
