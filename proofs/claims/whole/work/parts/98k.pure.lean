/-! ===== PURE: run (88): the acts and orders of each instruction ===== -/
section AOI
variable {code : List Ins} {own e m : Nat} {c : Ins}
theorem posC_s (hm : m < code.length) : posC code (m + 1) = posC code m + clen (inA code m) := by
  unfold posC
  rw [List.take_succ_eq_append_getElem hm, List.map_append, List.sum_append]
  have : inA code m = code[m] := by
    show code.getD m dI = _
    rw [List.getD_eq_getElem?_getD, List.getElem?_eq_getElem hm]
    rfl
  rw [this]
  rfl
theorem posR_s (hm : m < code.length) : posR code (m + 1) = posR code m + rlen (inA code m) := by
  unfold posR
  rw [List.take_succ_eq_append_getElem hm, List.map_append, List.sum_append]
  have : inA code m = code[m] := by
    show code.getD m dI = _
    rw [List.getD_eq_getElem?_getD, List.getElem?_eq_getElem hm]
    rfl
  rw [this]
  rfl
theorem lyo_s {L : List Nat} (hm : m < code.length) (hL : lyo (code.take m) = some L) : lyo (code.take (m + 1)) = eff (inA code m) L := by
  have : inA code m = code[m] := by
    show code.getD m dI = _
    rw [List.getD_eq_getElem?_getD, List.getElem?_eq_getElem hm]
    rfl
  rw [List.take_succ_eq_append_getElem hm, lyo_app, hL, this]
  rfl
theorem cI_0 (h : c.1 = 0) : cI code own c = [(0, c.2.2.2.1, c.2.2.2.2.1)] ∧ rI e code c = [(2, c.2.2.2.1, 0, 0, c.2.2.2.2.1)] := by
  obtain ⟨o, j, r, a, p, x, y⟩ := c
  have h : o = 0 := h
  subst h
  exact ⟨rfl, rfl⟩
theorem cI_1 (h : c.1 = 1) : cI code own c = [(1, cv c.2.2.1, c.2.2.2.2.1)] ∧ rI e code c = [(3, Int32.ofNat c.2.2.1, 0, 0, c.2.2.2.2.1)] := by
  obtain ⟨o, j, r, a, p, x, y⟩ := c
  have h : o = 1 := h
  subst h
  exact ⟨rfl, rfl⟩
theorem cI_2 (h : c.1 = 2) : cI code own c = [(0, 0, c.2.2.2.2.1)] ∧ rI e code c = [] := by
  obtain ⟨o, j, r, a, p, x, y⟩ := c
  have h : o = 2 := h
  subst h
  exact ⟨rfl, rfl⟩
theorem cI_3 (h : c.1 = 3) : cI code own c = [(19, 45, c.2.2.2.2.1)] ∧ rI e code c = [(4, 45, 0, 0, c.2.2.2.2.1)] := by
  obtain ⟨o, j, r, a, p, x, y⟩ := c
  have h : o = 3 := h
  subst h
  exact ⟨rfl, rfl⟩
theorem cI_4 (h : c.1 = 4) : cI code own c = [(0, 0, c.2.2.2.2.1), (19, 317, c.2.2.2.2.1)] ∧ rI e code c = [(4, 33, 0, 0, c.2.2.2.2.1)] := by
  obtain ⟨o, j, r, a, p, x, y⟩ := c
  have h : o = 4 := h
  subst h
  exact ⟨rfl, rfl⟩
theorem cI_5 (h : c.1 = 5) : cI code own c = [(19, Int32.ofNat c.2.2.1, c.2.2.2.2.1)] ∧ rI e code c = [(5, Int32.ofNat (sgv c.2.2.1), 0, 0, c.2.2.2.2.1)] := by
  obtain ⟨o, j, r, a, p, x, y⟩ := c
  have h : o = 5 := h
  subst h
  exact ⟨rfl, rfl⟩
theorem cI_6 (h : c.1 = 6) : cI code own c = [(20, Int32.ofNat c.2.1, c.2.2.2.2.1)] ∧ rI e code c = [(6, Int32.ofNat c.2.1, 0, 0, c.2.2.2.2.1)] := by
  obtain ⟨o, j, r, a, p, x, y⟩ := c
  have h : o = 6 := h
  subst h
  exact ⟨rfl, rfl⟩
theorem cI_7 (h : c.1 = 7) : cI code own c = [(21, 0, c.2.2.2.2.1)] ∧ rI e code c = [(7, 0, 0, 0, c.2.2.2.2.1)] := by
  obtain ⟨o, j, r, a, p, x, y⟩ := c
  have h : o = 7 := h
  subst h
  exact ⟨rfl, rfl⟩
theorem cI_8 (h : c.1 = 8) : cI code own c = (if c.2.2.1 = 5 then [(24, Int32.ofNat c.2.1, c.2.2.2.2.1)] else if c.2.1 = 1 then [(22, Int32.ofNat (c.2.2.1 + 11), c.2.2.2.2.1)] else [(23, Int32.ofNat (c.2.2.1 + 11), c.2.2.2.2.1)]) ∧ rI e code c = [(8, Int32.ofNat c.2.2.1, Int32.ofNat c.2.1, 0, c.2.2.2.2.1)] := by
  obtain ⟨o, j, r, a, p, x, y⟩ := c
  have h : o = 8 := h
  subst h
  exact ⟨rfl, rfl⟩
theorem cI_9 (h : c.1 = 9) : cI code own c = [(28, fa c.2.1, c.2.2.2.2.1)] ∧ rI e code c = [(9, fr e c.2.1, Int32.ofNat c.2.2.1, 0, c.2.2.2.2.1)] := by
  obtain ⟨o, j, r, a, p, x, y⟩ := c
  have h : o = 9 := h
  subst h
  exact ⟨rfl, rfl⟩
theorem cI_10 (h : c.1 = 10) : cI code own c = [(25, 0, c.2.2.2.2.1), (if c.2.2.1 = 1 then 13 else 15, fa c.2.1, c.2.2.2.2.1), (if c.2.2.1 = 1 then 14 else 16, Int32.ofNat (own + 1), c.2.2.2.2.1)] ∧ rI e code c = [(10, Int32.ofNat (27 + c.2.2.1), 0, 0, c.2.2.2.2.1), (11, Int32.ofNat (27 + c.2.2.1), fr e c.2.1, 0, c.2.2.2.2.1)] := by
  obtain ⟨o, j, r, a, p, x, y⟩ := c
  have h : o = 10 := h
  subst h
  exact ⟨rfl, rfl⟩
theorem cI_11 (h : c.1 = 11) : cI code own c = [(2, cv c.2.2.1, c.2.2.2.2.1)] ∧ rI e code c = [(12, Int32.ofNat c.2.2.1, 0, 0, c.2.2.2.2.1)] := by
  obtain ⟨o, j, r, a, p, x, y⟩ := c
  have h : o = 11 := h
  subst h
  exact ⟨rfl, rfl⟩
theorem cI_12 (h : c.1 = 12) : cI code own c = [(1, cv c.2.2.1, c.2.2.2.2.2.1), (if c.2.1 = 1 then 17 else 18, c.2.2.2.2.2.2, c.2.2.2.2.1), (2, cv c.2.2.1, c.2.2.2.2.2.1)] ∧ rI e code c = [(13, Int32.ofNat c.2.2.1, if c.2.1 = 1 then -1 else c.2.2.2.2.2.2, c.2.2.2.2.2.1, c.2.2.2.2.1)] := by
  obtain ⟨o, j, r, a, p, x, y⟩ := c
  have h : o = 12 := h
  subst h
  exact ⟨rfl, rfl⟩
theorem cI_13 (h : c.1 = 13) : cI code own c = [(5, tgC code c.2.1 0, c.2.2.2.2.1)] ∧ rI e code c = [(14, tgR e code c.2.1 0, 0, 0, c.2.2.2.2.1)] := by
  obtain ⟨o, j, r, a, p, x, y⟩ := c
  have h : o = 13 := h
  subst h
  exact ⟨rfl, rfl⟩
theorem cI_14 (h : c.1 = 14) : cI code own c = [(4, tgC code c.2.1 0, c.2.2.2.2.1)] ∧ rI e code c = [(15, tgR e code c.2.1 0, 0, 0, 0)] := by
  obtain ⟨o, j, r, a, p, x, y⟩ := c
  have h : o = 14 := h
  subst h
  exact ⟨rfl, rfl⟩
theorem cI_15 (h : c.1 = 15) : cI code own c = [(26, 0, c.2.2.2.2.1)] ∧ rI e code c = [(16, 0, 0, 0, c.2.2.2.2.1)] := by
  obtain ⟨o, j, r, a, p, x, y⟩ := c
  have h : o = 15 := h
  subst h
  exact ⟨rfl, rfl⟩
theorem cI_16 (h : c.1 = 16) : cI code own c = [(26, 0, c.2.2.2.2.1)] ∧ rI e code c = [(1, 0, 0, 0, c.2.2.2.2.1)] := by
  obtain ⟨o, j, r, a, p, x, y⟩ := c
  have h : o = 16 := h
  subst h
  exact ⟨rfl, rfl⟩
theorem cI_17 (h : c.1 = 17) : cI code own c = [(6, 0, c.2.2.2.2.1)] ∧ rI e code c = [(17, 0, 0, 0, c.2.2.2.2.1)] := by
  obtain ⟨o, j, r, a, p, x, y⟩ := c
  have h : o = 17 := h
  subst h
  exact ⟨rfl, rfl⟩
theorem cI_18 (h : c.1 = 18) : cI code own c = [(27, tgC code c.2.1 0, c.2.2.2.2.1), (2, cv c.2.2.1, c.2.2.2.2.1)] ∧ rI e code c = [(18, tgR e code c.2.1 0, Int32.ofNat c.2.2.1, 0, c.2.2.2.2.1)] := by
  obtain ⟨o, j, r, a, p, x, y⟩ := c
  have h : o = 18 := h
  subst h
  exact ⟨rfl, rfl⟩
theorem cI_19 (h : c.1 = 19) : cI code own c = [(7, 0, c.2.2.2.2.1)] ∧ rI e code c = [(19, 0, 0, 0, c.2.2.2.2.1)] := by
  obtain ⟨o, j, r, a, p, x, y⟩ := c
  have h : o = 19 := h
  subst h
  exact ⟨rfl, rfl⟩
theorem cI_20 (h : c.1 = 20) : cI code own c = [(8, 0, c.2.2.2.2.1)] ∧ rI e code c = [(20, 0, 0, 0, c.2.2.2.2.1)] := by
  obtain ⟨o, j, r, a, p, x, y⟩ := c
  have h : o = 20 := h
  subst h
  exact ⟨rfl, rfl⟩
theorem cI_21 (h : c.1 = 21) : cI code own c = [(9, 0, c.2.2.2.2.1)] ∧ rI e code c = [(21, 0, 0, 0, c.2.2.2.2.1)] := by
  obtain ⟨o, j, r, a, p, x, y⟩ := c
  have h : o = 21 := h
  subst h
  exact ⟨rfl, rfl⟩
theorem cI_22 (h : c.1 = 22) : cI code own c = [(3, 0, 0)] ∧ rI e code c = [(22, 0, 0, 0, c.2.2.2.2.2.1)] := by
  obtain ⟨o, j, r, a, p, x, y⟩ := c
  have h : o = 22 := h
  subst h
  exact ⟨rfl, rfl⟩
theorem cI_23 (h : c.1 = 23) : cI code own c = [(10, tgC code c.2.1 0, 0)] ∧ rI e code c = [(23, tgR e code c.2.1 0, Int32.ofNat c.2.2.1, 0, c.2.2.2.2.1)] := by
  obtain ⟨o, j, r, a, p, x, y⟩ := c
  have h : o = 23 := h
  subst h
  exact ⟨rfl, rfl⟩
theorem cI_24 (h : c.1 = 24) : cI code own c = [(11, tgC code c.2.1 0, 0)] ∧ rI e code c = [(24, tgR e code c.2.1 0, 0, 0, 0)] := by
  obtain ⟨o, j, r, a, p, x, y⟩ := c
  have h : o = 24 := h
  subst h
  exact ⟨rfl, rfl⟩
theorem cI_25 (h : c.1 = 25) : cI code own c = [(12, 0, c.2.2.2.2.1), (2, cv c.2.2.1, c.2.2.2.2.1)] ∧ rI e code c = [] := by
  obtain ⟨o, j, r, a, p, x, y⟩ := c
  have h : o = 25 := h
  subst h
  exact ⟨rfl, rfl⟩
theorem cI_26 (h : c.1 = 26) : cI code own c = [] ∧ rI e code c = [] := by
  obtain ⟨o, j, r, a, p, x, y⟩ := c
  have h : o = 26 := h
  subst h
  exact ⟨rfl, rfl⟩
end AOI
