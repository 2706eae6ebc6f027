/-! ===== PURE: code is amended ===== -/
section AMD
variable {N : Nat} {X : Nat → Option zz_C} {t t' : cS} {s s' : mS} {e m : Nat} {code : List Ins} {c c' : Ins}
theorem flat_set {α : Type} {f g : Nat → List α} {n m : Nat} {a a' : α} {l : List α} (hm : m < n) (h : ∀ k, k < n → ¬ k = m → g k = f k) (hf : f m = a :: l) (hg : g m = a' :: l) : ((List.range n).flatMap f).set (((List.range m).flatMap f).length) a' = (List.range n).flatMap g := by
  obtain ⟨d, rfl⟩ : ∃ d, n = m + (1 + d) := ⟨n - m - 1, by omega⟩
  rw [List.range_add, List.flatMap_append, List.flatMap_append, List.set_append_right _ _ (Nat.le_refl _), Nat.sub_self]
  have e1 : (List.range m).flatMap f = (List.range m).flatMap g := flat_congr fun k hk => (h k (by have := List.mem_range.mp hk; omega) (by have := List.mem_range.mp hk; omega)).symm
  rw [e1]
  congr 1
  rw [List.range_add, List.map_append, List.flatMap_append, List.flatMap_append]
  have e2 : ∀ q : Nat → List α, ((List.range 1).map (m + ·)).flatMap q = q m := fun q => by
    show (q (m + 0) ++ []) = q m
    rw [List.append_nil]
    rfl
  rw [e2, e2, hf, hg]
  show a' :: l ++ _ = _
  congr 1
  refine flat_congr fun k hk => ?_
  obtain ⟨k1, hk1, hk2⟩ := List.mem_map.mp hk
  obtain ⟨k2, hk3, hk4⟩ := List.mem_map.mp hk1
  have := List.mem_range.mp hk3
  exact (h k (by omega) (by omega)).symm
theorem getD_set_ne {k : Nat} (h : ¬ k = m) : (code.set m c').getD k dI = code.getD k dI := by
  rw [List.getD_eq_getElem?_getD, List.getD_eq_getElem?_getD, List.getElem?_set_ne (fun z => h z.symm)]
theorem getD_set_eq (h : m < code.length) : (code.set m c').getD m dI = c' := by
  rw [List.getD_eq_getElem?_getD, List.getElem?_set_self h]
  rfl
theorem map_set_same {α : Type} {g : Ins → α} (h : g c' = g (code.getD m dI)) : (code.set m c').map g = code.map g := by
  rw [List.map_set]
  refine List.ext_getElem (by simp) (fun k h1 h2 => ?_)
  rw [List.getElem_set]
  split
  · rename_i z
    subst z
    have hk : m < code.length := by simpa using h2
    rw [h, List.getElem_map, List.getD_eq_getElem?_getD, List.getElem?_eq_getElem hk]
    rfl
  · rfl
theorem take_map_sum {g : Ins → Nat} {j : Nat} : ((code.take j).map g).sum = ((code.map g).take j).sum := by rw [List.map_take]
theorem posC_set {j : Nat} (h : clen c' = clen (code.getD m dI)) : posC (code.set m c') j = posC code j := by
  unfold posC
  rw [take_map_sum, take_map_sum, map_set_same h]
theorem posR_set {j : Nat} (h : rlen c' = rlen (code.getD m dI)) : posR (code.set m c') j = posR code j := by
  unfold posR
  rw [take_map_sum, take_map_sum, map_set_same h]
theorem cI_pos {code1 code2 : List Ins} {own : Nat} {x : Ins} (h : ∀ j, posC code1 j = posC code2 j) : cI code1 own x = cI code2 own x := by
  have e : ∀ j d, tgC code1 j d = tgC code2 j d := fun j d => by
    unfold tgC
    rw [h]
  obtain ⟨o, j, r, a, p, x, y⟩ := x
  unfold cI
  dsimp only
  rw [e]
theorem rI_pos {code1 code2 : List Ins} {x : Ins} (h : ∀ j, posR code1 j = posR code2 j) : rI e code1 x = rI e code2 x := by
  have e : ∀ j d, tgR e code1 j d = tgR e code2 j d := fun j d => by
    unfold tgR
    rw [h]
  obtain ⟨o, j, r, a, p, x, y⟩ := x
  unfold rI
  dsimp only
  rw [e]
theorem CA_pre : ((List.range m).flatMap fun k => cI code (posC code k) (code.getD k dI)).length = (((List.range m).map fun k => clen (code.getD k dI)).sum) := by
  rw [List.length_flatMap]
  exact congrArg List.sum (List.map_congr_left fun k _ => cI_len)
theorem RA_pre : ((List.range m).flatMap fun k => rI e code (code.getD k dI)).length = (((List.range m).map fun k => rlen (code.getD k dI)).sum) := by
  rw [List.length_flatMap]
  exact congrArg List.sum (List.map_congr_left fun k _ => rI_len)
theorem rng_take {g : Ins → Nat} (hm : m ≤ code.length) : (List.range m).map (fun k => g (code.getD k dI)) = (code.take m).map g := by
  refine List.ext_getElem (by simp; omega) (fun k h1 h2 => ?_)
  have hk : k < m := by simpa using h1
  rw [List.getElem_map, List.getElem_map, List.getElem_range, List.getElem_take, List.getD_eq_getElem?_getD, List.getElem?_eq_getElem (by omega)]
  rfl
/-- the class's acts, where one instruction is amended -/
theorem CA_set {a a' : C3} {l : List C3} (hm : m < code.length) (hl : clen c' = clen (code.getD m dI)) (h1 : cI code (posC code m) (code.getD m dI) = a :: l) (h2 : cI code (posC code m) c' = a' :: l) : CA (code.set m c') = (CA code).set (posC code m) a' := by
  have hp : ∀ j, posC (code.set m c') j = posC code j := fun j => posC_set hl
  unfold CA
  rw [List.length_set]
  have e0 : posC code m = ((List.range m).flatMap fun k => cI code (posC code k) (code.getD k dI)).length := by
    rw [CA_pre, rng_take (Nat.le_of_lt hm)]
    rfl
  rw [e0]
  refine (flat_set hm (fun k hk hne => ?_) h1 ?_).symm
  · show cI (code.set m c') (posC (code.set m c') k) ((code.set m c').getD k dI) = _
    rw [hp, getD_set_ne hne]
    exact cI_pos hp
  · show cI (code.set m c') (posC (code.set m c') m) ((code.set m c').getD m dI) = _
    rw [hp, getD_set_eq hm, cI_pos hp]
    exact h2
/-- and the reference's orders -/
theorem RA_set {a a' : R5} {l : List R5} (hm : m < code.length) (hl : rlen c' = rlen (code.getD m dI)) (h1 : rI e code (code.getD m dI) = a :: l) (h2 : rI e code c' = a' :: l) : RA e (code.set m c') = (RA e code).set (posR code m) a' := by
  have hp : ∀ j, posR (code.set m c') j = posR code j := fun j => posR_set hl
  unfold RA
  rw [List.length_set]
  have e0 : posR code m = ((List.range m).flatMap fun k => rI e code (code.getD k dI)).length := by
    rw [RA_pre, rng_take (Nat.le_of_lt hm)]
    rfl
  rw [e0]
  refine (flat_set hm (fun k hk hne => ?_) h1 ?_).symm
  · show rI e (code.set m c') ((code.set m c').getD k dI) = _
    rw [getD_set_ne hne]
    exact rI_pos hp
  · show rI e (code.set m c') ((code.set m c').getD m dI) = _
    rw [getD_set_eq hm, rI_pos hp]
    exact h2
/-- what stands in the acts at an instruction's begin -/
theorem flat_get {α : Type} {f : Nat → List α} {n m : Nat} {a : α} {l : List α} (hm : m < n) (hf : f m = a :: l) : ∃ h : ((List.range m).flatMap f).length < ((List.range n).flatMap f).length, ((List.range n).flatMap f)[((List.range m).flatMap f).length] = a := by
  obtain ⟨d, rfl⟩ : ∃ d, n = m + (1 + d) := ⟨n - m - 1, by omega⟩
  have e2 : ((List.range 1).map (m + ·)).flatMap f = f m := by
    show (f (m + 0) ++ []) = f m
    rw [List.append_nil]
    rfl
  have e3 : ∃ r, (List.range (m + (1 + d))).flatMap f = (List.range m).flatMap f ++ a :: r := by
    rw [List.range_add, List.flatMap_append, List.range_add, List.map_append, List.flatMap_append, e2, hf]
    exact ⟨_, rfl⟩
  obtain ⟨r, hr⟩ := e3
  refine ⟨by rw [hr, List.length_append, List.length_cons]; omega, ?_⟩
  simp only [hr]
  rw [List.getElem_append_right (Nat.le_refl _)]
  simp only [Nat.sub_self, List.getElem_cons_zero]
theorem CA_get {a : C3} {l : List C3} (hm : m < code.length) (h1 : cI code (posC code m) (code.getD m dI) = a :: l) : ∃ h : posC code m < (CA code).length, (CA code)[posC code m] = a := by
  have e0 : posC code m = ((List.range m).flatMap fun k => cI code (posC code k) (code.getD k dI)).length := by
    rw [CA_pre, rng_take (Nat.le_of_lt hm)]
    rfl
  obtain ⟨g1, g2⟩ := flat_get (f := fun k => cI code (posC code k) (code.getD k dI)) hm h1
  simp only [← e0] at g1 g2
  exact ⟨g1, g2⟩
theorem RA_get {a : R5} {l : List R5} (hm : m < code.length) (h1 : rI e code (code.getD m dI) = a :: l) : ∃ h : posR code m < (RA e code).length, (RA e code)[posR code m] = a := by
  have e0 : posR code m = ((List.range m).flatMap fun k => rI e code (code.getD k dI)).length := by
    rw [RA_pre, rng_take (Nat.le_of_lt hm)]
    rfl
  obtain ⟨g1, g2⟩ := flat_get (f := fun k => rI e code (code.getD k dI)) hm h1
  simp only [← e0] at g1 g2
  exact ⟨g1, g2⟩
theorem rl_set (h : rlen c' = rlen (code.getD m dI)) : rl (code.set m c') = rl code := by
  unfold rl
  rw [map_set_same h]
theorem xl_set (h : xlen c' = xlen (code.getD m dI)) : xl (code.set m c') = xl code := by
  unfold xl
  rw [map_set_same h]
theorem cx_set (h : clen c' = clen (code.getD m dI)) : cx (code.set m c') = cx code := by
  unfold cx
  rw [map_set_same h]
theorem lyo_set (h : ∀ L, eff c' L = eff (code.getD m dI) L) : lyo (code.set m c') = lyo code := by
  unfold lyo
  have key : ∀ (code : List Ins) (m : Nat) (L : List Nat), (∀ L, eff c' L = eff (code.getD m dI) L) → (code.set m c').foldlM (fun L c => eff c L) L = code.foldlM (fun L c => eff c L) L := by
    intro code
    induction code with
    | nil =>
      intro m L h
      rfl
    | cons x code ih =>
      intro m L h
      cases m with
      | zero =>
        have h : ∀ L, eff c' L = eff x L := h
        show (eff c' L).bind _ = (eff x L).bind _
        rw [h]
      | succ m =>
        have h : ∀ L, eff c' L = eff (code.getD m dI) L := fun L => by
          have := h L
          rw [List.getD_cons_succ] at this
          exact this
        show (eff x L).bind _ = (eff x L).bind _
        cases eff x L with
        | none => rfl
        | some L' => exact ih m L' h
  exact key code m [] h
theorem lyo_set_take {k : Nat} (h : ∀ L, eff c' L = eff (code.getD m dI) L) : lyo ((code.set m c').take k) = lyo (code.take k) := by
  rw [List.take_set]
  by_cases z : m < k
  · refine lyo_set (fun L => ?_)
    rw [h L]
    congr 1
    rw [List.getD_eq_getElem?_getD, List.getD_eq_getElem?_getD, List.getElem?_take_of_lt z]
  · rw [List.set_eq_of_length_le (by rw [List.length_take]; omega)]
end AMD
