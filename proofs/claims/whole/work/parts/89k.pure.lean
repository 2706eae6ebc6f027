/-! ===== PURE: code, as both sides have it ===== -/
/-- what, a jump's target (or a function, or how many), a variable (or a sign, or a built-in), a number, places -/
abbrev Ins : Type := Nat × Nat × Nat × Int32 × Int32 × Int32 × Int32
abbrev C3 : Type := Int32 × Int32 × Int32
/-- not told yet -/
abbrev unk : Nat := 99999
def clen (c : Ins) : Nat := if c.1 = 4 ∨ c.1 = 18 ∨ c.1 = 25 then 2 else if c.1 = 10 ∨ c.1 = 12 then 3 else if c.1 = 26 then 0 else 1
def rlen (c : Ins) : Nat := if c.1 = 2 ∨ c.1 = 25 ∨ c.1 = 26 then 0 else if c.1 = 10 then 2 else 1
def posC (code : List Ins) (j : Nat) : Nat := ((code.take j).map clen).sum
def posR (code : List Ins) (j : Nat) : Nat := ((code.take j).map rlen).sum
/-- a variable as the class has it -/
def cv (r : Nat) : Int32 := if r < 8 then -Int32.ofNat (r + 1) else Int32.ofNat (r - 8)
def tgC (code : List Ins) (j d : Nat) : Int32 := if j = unk then 0 else Int32.ofNat (posC code j + d)
def tgR (e : Nat) (code : List Ins) (j d : Nat) : Int32 := if j = unk then 0 else Int32.ofNat (ob0 e + posR code j + d)
def fa (j : Nat) : Int32 := if j = unk then 0 else Int32.ofNat j
def fr (e j : Nat) : Int32 := if j = unk then 0 else Int32.ofNat (12 * (1 - e) + j)
/-- the acts of an instruction that stands at own -/
def cI (code : List Ins) (own : Nat) (c : Ins) : List C3 := match c with
  | (o, j, r, a, p, x, y) => if o = 0 then [(0, a, p)] else if o = 1 then [(1, cv r, p)] else if o = 2 then [(0, 0, p)] else if o = 3 then [(19, 45, p)] else if o = 4 then [(0, 0, p), (19, 317, p)] else if o = 5 then [(19, Int32.ofNat r, p)] else if o = 6 then [(20, Int32.ofNat j, p)] else if o = 7 then [(21, 0, p)] else if o = 8 then (if r = 5 then [(24, Int32.ofNat j, p)] else if j = 1 then [(22, Int32.ofNat (r + 11), p)] else [(23, Int32.ofNat (r + 11), p)]) else if o = 9 then [(28, fa j, p)] else if o = 10 then [(25, 0, p), (if r = 1 then 13 else 15, fa j, p), (if r = 1 then 14 else 16, Int32.ofNat (own + 1), p)] else if o = 11 then [(2, cv r, p)] else if o = 12 then [(1, cv r, x), (if j = 1 then 17 else 18, y, p), (2, cv r, x)] else if o = 13 then [(5, tgC code j 0, p)] else if o = 14 then [(4, tgC code j 0, p)] else if o = 15 then [(26, 0, p)] else if o = 16 then [(26, 0, p)] else if o = 17 then [(6, 0, p)] else if o = 18 then [(27, tgC code j 0, p), (2, cv r, p)] else if o = 19 then [(7, 0, p)] else if o = 20 then [(8, 0, p)] else if o = 21 then [(9, 0, p)] else if o = 22 then [(3, 0, 0)] else if o = 23 then [(10, tgC code j 0, 0)] else if o = 24 then [(11, tgC code j 0, 0)] else if o = 25 then [(12, 0, p), (2, cv r, p)] else if o = 26 then [] else [(0, 0, 0)]
/-- its orders -/
def rI (e : Nat) (code : List Ins) (c : Ins) : List R5 := match c with
  | (o, j, r, a, p, x, y) => if o = 0 then [(2, a, 0, 0, p)] else if o = 1 then [(3, Int32.ofNat r, 0, 0, p)] else if o = 2 then [] else if o = 3 then [(4, 45, 0, 0, p)] else if o = 4 then [(4, 33, 0, 0, p)] else if o = 5 then [(5, Int32.ofNat (sgv r), 0, 0, p)] else if o = 6 then [(6, Int32.ofNat j, 0, 0, p)] else if o = 7 then [(7, 0, 0, 0, p)] else if o = 8 then [(8, Int32.ofNat r, Int32.ofNat j, 0, p)] else if o = 9 then [(9, fr e j, Int32.ofNat r, 0, p)] else if o = 10 then [(10, Int32.ofNat (27 + r), 0, 0, p), (11, Int32.ofNat (27 + r), fr e j, 0, p)] else if o = 11 then [(12, Int32.ofNat r, 0, 0, p)] else if o = 12 then [(13, Int32.ofNat r, if j = 1 then -1 else y, x, p)] else if o = 13 then [(14, tgR e code j 0, 0, 0, p)] else if o = 14 then [(15, tgR e code j 0, 0, 0, 0)] else if o = 15 then [(16, 0, 0, 0, p)] else if o = 16 then [(1, 0, 0, 0, p)] else if o = 17 then [(17, 0, 0, 0, p)] else if o = 18 then [(18, tgR e code j 0, Int32.ofNat r, 0, p)] else if o = 19 then [(19, 0, 0, 0, p)] else if o = 20 then [(20, 0, 0, 0, p)] else if o = 21 then [(21, 0, 0, 0, p)] else if o = 22 then [(22, 0, 0, 0, x)] else if o = 23 then [(23, tgR e code j 0, Int32.ofNat r, 0, p)] else if o = 24 then [(24, tgR e code j 0, 0, 0, 0)] else if o = 25 then [] else if o = 26 then [] else [(2, 0, 0, 0, 0)]
def CA (code : List Ins) : List C3 := (List.range code.length).flatMap fun m => cI code (posC code m) (code.getD m (0, 0, 0, 0, 0, 0, 0))
def RA (e : Nat) (code : List Ins) : List R5 := (List.range code.length).flatMap fun m => rI e code (code.getD m (0, 0, 0, 0, 0, 0, 0))
/-- targets lie within -/
def wfC (code : List Ins) : Prop := ∀ c ∈ code, c.2.1 = unk ∨ c.2.1 ≤ code.length ∨ ¬ (c.1 = 13 ∨ c.1 = 14 ∨ c.1 = 18 ∨ c.1 = 23 ∨ c.1 = 24)
theorem posC_app {code l : List Ins} {j : Nat} (h : j ≤ code.length) : posC (code ++ l) j = posC code j := by
  unfold posC
  rw [List.take_append_of_le_length h]
theorem posR_app {code l : List Ins} {j : Nat} (h : j ≤ code.length) : posR (code ++ l) j = posR code j := by
  unfold posR
  rw [List.take_append_of_le_length h]
theorem tgC_app {code l : List Ins} {j d : Nat} (h : j = unk ∨ j ≤ code.length) : tgC (code ++ l) j d = tgC code j d := by
  unfold tgC
  by_cases c : j = unk
  · rw [if_pos c, if_pos c]
  · rw [if_neg c, if_neg c, posC_app (h.elim (fun z => absurd z c) (fun z => z))]
theorem tgR_app {e : Nat} {code l : List Ins} {j d : Nat} (h : j = unk ∨ j ≤ code.length) : tgR e (code ++ l) j d = tgR e code j d := by
  unfold tgR
  by_cases c : j = unk
  · rw [if_pos c, if_pos c]
  · rw [if_neg c, if_neg c, posR_app (h.elim (fun z => absurd z c) (fun z => z))]
theorem cI_app {code l : List Ins} {own : Nat} {c : Ins} (h : c.2.1 = unk ∨ c.2.1 ≤ code.length ∨ ¬ (c.1 = 13 ∨ c.1 = 14 ∨ c.1 = 18 ∨ c.1 = 23 ∨ c.1 = 24)) : cI (code ++ l) own c = cI code own c := by
  obtain ⟨o, j, r, a, p, x, y⟩ := c
  have h : j = unk ∨ j ≤ code.length ∨ ¬ (o = 13 ∨ o = 14 ∨ o = 18 ∨ o = 23 ∨ o = 24) := h
  by_cases q : j = unk ∨ j ≤ code.length
  · unfold cI
    dsimp only
    rw [tgC_app q]
  · have q : ¬ (o = 13 ∨ o = 14 ∨ o = 18 ∨ o = 23 ∨ o = 24) := by omega
    have n1 : ¬ o = 13 := by omega
    have n2 : ¬ o = 14 := by omega
    have n3 : ¬ o = 18 := by omega
    have n4 : ¬ o = 23 := by omega
    have n5 : ¬ o = 24 := by omega
    unfold cI
    dsimp only
    simp only [n1, n2, n3, n4, n5, if_false]
theorem rI_app {e : Nat} {code l : List Ins} {c : Ins} (h : c.2.1 = unk ∨ c.2.1 ≤ code.length ∨ ¬ (c.1 = 13 ∨ c.1 = 14 ∨ c.1 = 18 ∨ c.1 = 23 ∨ c.1 = 24)) : rI e (code ++ l) c = rI e code c := by
  obtain ⟨o, j, r, a, p, x, y⟩ := c
  have h : j = unk ∨ j ≤ code.length ∨ ¬ (o = 13 ∨ o = 14 ∨ o = 18 ∨ o = 23 ∨ o = 24) := h
  by_cases q : j = unk ∨ j ≤ code.length
  · unfold rI
    dsimp only
    rw [tgR_app q]
  · have q : ¬ (o = 13 ∨ o = 14 ∨ o = 18 ∨ o = 23 ∨ o = 24) := by omega
    have n1 : ¬ o = 13 := by omega
    have n2 : ¬ o = 14 := by omega
    have n3 : ¬ o = 18 := by omega
    have n4 : ¬ o = 23 := by omega
    have n5 : ¬ o = 24 := by omega
    unfold rI
    dsimp only
    simp only [n1, n2, n3, n4, n5, if_false]
theorem flat_congr {α β : Type} {f g : α → List β} : ∀ {l : List α}, (∀ x ∈ l, f x = g x) → l.flatMap f = l.flatMap g
  | [], _ => rfl
  | a :: l, h => by
    rw [List.flatMap_cons, List.flatMap_cons, h a List.mem_cons_self, flat_congr (fun x hx => h x (List.mem_cons_of_mem _ hx))]
theorem getD_app {code : List Ins} {c d : Ins} {m : Nat} (h : m < code.length) : (code ++ [c]).getD m d = code.getD m d := by
  rw [List.getD_eq_getElem?_getD, List.getD_eq_getElem?_getD, List.getElem?_append_left h]
theorem getD_last {code : List Ins} {c d : Ins} : (code ++ [c]).getD code.length d = c := by
  rw [List.getD_eq_getElem?_getD, List.getElem?_append_right (Nat.le_refl _), Nat.sub_self]
  rfl
theorem getD_mem {code : List Ins} {d : Ins} {m : Nat} (h : m < code.length) : code.getD m d ∈ code := by
  rw [List.getD_eq_getElem?_getD, List.getElem?_eq_getElem h]
  exact List.getElem_mem h
/-- one instruction more -/
theorem CA_app {code : List Ins} {c : Ins} (hw : wfC code) (hc : c.2.1 = unk ∨ c.2.1 ≤ code.length ∨ ¬ (c.1 = 13 ∨ c.1 = 14 ∨ c.1 = 18 ∨ c.1 = 23 ∨ c.1 = 24)) : CA (code ++ [c]) = CA code ++ cI code (posC code code.length) c := by
  unfold CA
  rw [List.length_append, show code.length + [c].length = code.length + 1 from rfl, List.range_succ, List.flatMap_append, List.flatMap_cons, List.flatMap_nil, List.append_nil, getD_last, posC_app (Nat.le_refl _), cI_app hc]
  congr 1
  refine flat_congr (fun m hm => ?_)
  have hm := List.mem_range.mp hm
  rw [getD_app hm, posC_app (by omega), cI_app (hw _ (getD_mem hm))]
theorem RA_app {e : Nat} {code : List Ins} {c : Ins} (hw : wfC code) (hc : c.2.1 = unk ∨ c.2.1 ≤ code.length ∨ ¬ (c.1 = 13 ∨ c.1 = 14 ∨ c.1 = 18 ∨ c.1 = 23 ∨ c.1 = 24)) : RA e (code ++ [c]) = RA e code ++ rI e code c := by
  unfold RA
  rw [List.length_append, show code.length + [c].length = code.length + 1 from rfl, List.range_succ, List.flatMap_append, List.flatMap_cons, List.flatMap_nil, List.append_nil, getD_last, rI_app hc]
  congr 1
  refine flat_congr (fun m hm => ?_)
  have hm := List.mem_range.mp hm
  rw [getD_app hm, rI_app (hw _ (getD_mem hm))]
theorem wfC_app {code : List Ins} {c : Ins} (hw : wfC code) (hc : c.2.1 = unk ∨ c.2.1 ≤ code.length + 1 ∨ ¬ (c.1 = 13 ∨ c.1 = 14 ∨ c.1 = 18 ∨ c.1 = 23 ∨ c.1 = 24)) : wfC (code ++ [c]) := by
  intro d hd
  rw [List.length_append]
  show _ ∨ d.2.1 ≤ code.length + 1 ∨ _
  obtain h | h := List.mem_append.mp hd
  · have := hw d h
    omega
  · rw [List.mem_singleton.mp h]
    exact hc
theorem posC_len {code : List Ins} : posC code code.length = (code.map clen).sum := by
  unfold posC
  rw [List.take_length]
theorem cI_len {code : List Ins} {own : Nat} {c : Ins} : (cI code own c).length = clen c := by
  obtain ⟨o, j, r, a, p, x, y⟩ := c
  unfold cI clen
  dsimp only
  by_cases h0 : o ≤ 26
  · have hv : o = 0 ∨ o = 1 ∨ o = 2 ∨ o = 3 ∨ o = 4 ∨ o = 5 ∨ o = 6 ∨ o = 7 ∨ o = 8 ∨ o = 9 ∨ o = 10 ∨ o = 11 ∨ o = 12 ∨ o = 13 ∨ o = 14 ∨ o = 15 ∨ o = 16 ∨ o = 17 ∨ o = 18 ∨ o = 19 ∨ o = 20 ∨ o = 21 ∨ o = 22 ∨ o = 23 ∨ o = 24 ∨ o = 25 ∨ o = 26 := by omega
    rcases hv with rfl | rfl | rfl | rfl | rfl | rfl | rfl | rfl | rfl | rfl | rfl | rfl | rfl | rfl | rfl | rfl | rfl | rfl | rfl | rfl | rfl | rfl | rfl | rfl | rfl | rfl | rfl
    all_goals first
      | rfl
      | (simp only [Nat.reduceEqDiff, if_false, if_true]; split <;> first | rfl | (split <;> rfl))
  · simp only [show ¬ o = 0 by omega, show ¬ o = 1 by omega, show ¬ o = 2 by omega, show ¬ o = 3 by omega, show ¬ o = 4 by omega, show ¬ o = 5 by omega, show ¬ o = 6 by omega, show ¬ o = 7 by omega, show ¬ o = 8 by omega, show ¬ o = 9 by omega, show ¬ o = 10 by omega, show ¬ o = 11 by omega, show ¬ o = 12 by omega, show ¬ o = 13 by omega, show ¬ o = 14 by omega, show ¬ o = 15 by omega, show ¬ o = 16 by omega, show ¬ o = 17 by omega, show ¬ o = 18 by omega, show ¬ o = 19 by omega, show ¬ o = 20 by omega, show ¬ o = 21 by omega, show ¬ o = 22 by omega, show ¬ o = 23 by omega, show ¬ o = 24 by omega, show ¬ o = 25 by omega, show ¬ o = 26 by omega, if_false, or_self]
    rfl
