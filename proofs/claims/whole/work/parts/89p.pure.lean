/-! ===== PURE: the picture that both parsers share ===== -/
/-- a call: instruction, offset, name, place, how many -/
abbrev Cn : Type := Nat × Nat × List Nat × Nat × Nat
def cK (code : List Ins) (c : Cn) : K4 := (Int32.ofNat (posC code c.1 + c.2.1), Int64.ofNat (evB 32 c.2.2.1), Int32.ofNat c.2.2.2.1, Int32.ofNat c.2.2.2.2)
def rK (e : Nat) (code : List Ins) (c : Cn) : K4 := (Int32.ofNat (ob0 e + posR code c.1 + c.2.1), Int64.ofNat (evB 27 c.2.2.1), Int32.ofNat c.2.2.2.2, Int32.ofNat c.2.2.2.1)
/-- how many orders, how many acts -/
def rl (code : List Ins) : Nat := (code.map rlen).sum
def cx (code : List Ins) : Nat := (code.map clen).sum
/-- what a list, a call, a put has of parts beyond its own order -/
def xlen (c : Ins) : Nat := if c.1 = 6 ∨ c.1 = 8 then c.2.1 - 1 else if c.1 = 9 then c.2.2.1 - 1 else if c.1 = 12 then c.2.1 else 0
def xl (code : List Ins) : Nat := (code.map xlen).sum
theorem xl_app {code l : List Ins} : xl (code ++ l) = xl code + xl l := by
  unfold xl
  rw [List.map_append, List.sum_append]
theorem xl_one {c : Ins} : xl [c] = xlen c := by
  unfold xl
  simp
theorem rl_app {code l : List Ins} : rl (code ++ l) = rl code + rl l := by
  unfold rl
  rw [List.map_append, List.sum_append]
theorem cx_app {code l : List Ins} : cx (code ++ l) = cx code + cx l := by
  unfold cx
  rw [List.map_append, List.sum_append]
theorem rl_one {c : Ins} : rl [c] = rlen c := by
  unfold rl
  simp
theorem cx_one {c : Ins} : cx [c] = clen c := by
  unfold cx
  simp
theorem rI_len {e : Nat} {code : List Ins} {c : Ins} : (rI e code c).length = rlen c := by
  obtain ⟨o, j, r, a, p, x, y⟩ := c
  unfold rI rlen
  dsimp only
  by_cases h0 : o ≤ 26
  · have hv : o = 0 ∨ o = 1 ∨ o = 2 ∨ o = 3 ∨ o = 4 ∨ o = 5 ∨ o = 6 ∨ o = 7 ∨ o = 8 ∨ o = 9 ∨ o = 10 ∨ o = 11 ∨ o = 12 ∨ o = 13 ∨ o = 14 ∨ o = 15 ∨ o = 16 ∨ o = 17 ∨ o = 18 ∨ o = 19 ∨ o = 20 ∨ o = 21 ∨ o = 22 ∨ o = 23 ∨ o = 24 ∨ o = 25 ∨ o = 26 := by omega
    rcases hv with rfl | rfl | rfl | rfl | rfl | rfl | rfl | rfl | rfl | rfl | rfl | rfl | rfl | rfl | rfl | rfl | rfl | rfl | rfl | rfl | rfl | rfl | rfl | rfl | rfl | rfl | rfl
    all_goals first
      | rfl
      | (simp only [Nat.reduceEqDiff, if_false, if_true]; split <;> first | rfl | (split <;> rfl))
  · simp only [show ¬ o = 0 by omega, show ¬ o = 1 by omega, show ¬ o = 2 by omega, show ¬ o = 3 by omega, show ¬ o = 4 by omega, show ¬ o = 5 by omega, show ¬ o = 6 by omega, show ¬ o = 7 by omega, show ¬ o = 8 by omega, show ¬ o = 9 by omega, show ¬ o = 10 by omega, show ¬ o = 11 by omega, show ¬ o = 12 by omega, show ¬ o = 13 by omega, show ¬ o = 14 by omega, show ¬ o = 15 by omega, show ¬ o = 16 by omega, show ¬ o = 17 by omega, show ¬ o = 18 by omega, show ¬ o = 19 by omega, show ¬ o = 20 by omega, show ¬ o = 21 by omega, show ¬ o = 22 by omega, show ¬ o = 23 by omega, show ¬ o = 24 by omega, show ¬ o = 25 by omega, show ¬ o = 26 by omega, if_false, or_self]
    rfl
theorem map_range {α : Type} {code : List Ins} {d : Ins} {g : Ins → α} : (List.range code.length).map (fun m => g (code.getD m d)) = code.map g := by
  refine List.ext_getElem (by simp) (fun m h1 h2 => ?_)
  have hm : m < code.length := by simpa using h2
  rw [List.getElem_map, List.getElem_map, List.getElem_range, List.getD_eq_getElem?_getD, List.getElem?_eq_getElem hm]
  rfl
theorem RA_len {e : Nat} {code : List Ins} : (RA e code).length = rl code := by
  unfold RA rl
  rw [List.length_flatMap]
  rw [← map_range (d := (0, 0, 0, 0, 0, 0, 0)) (g := rlen)]
  exact congrArg List.sum (List.map_congr_left fun m _ => rI_len)
theorem CA_len {code : List Ins} : (CA code).length = cx code := by
  unfold CA cx
  rw [List.length_flatMap]
  rw [← map_range (d := (0, 0, 0, 0, 0, 0, 0)) (g := clen)]
  exact congrArg List.sum (List.map_congr_left fun m _ => cI_len)
/-- what an instruction does to what lies on the stack: 0 a value, 1 the class's 0 of a minus, 2 a for, 3 a try, 4 a condition, 5 a step that was paid, 9 none comes here but by a trouble -/
def pop0 : Nat → List Nat → Option (List Nat)
  | 0, L => some L
  | k + 1, 0 :: L => pop0 k L
  | _, _ => none
/-- how many a for or a try has there -/
def nF : List Nat → Nat
  | [] => 0
  | x :: L => nF L + (if 2 ≤ x ∧ x ≤ 4 then 1 else 0)
/-- the last of a statement: it takes a value, and the step that was paid -/
def pay : List Nat → Option (List Nat)
  | 0 :: 5 :: M => some M
  | _ => none
def eff (c : Ins) (L : List Nat) : Option (List Nat) := match c.1 with
  | 0 => some (0 :: L)
  | 1 => some (0 :: L)
  | 2 => some (1 :: L)
  | 3 => (match L with | 0 :: 1 :: M => some (0 :: M) | _ => none)
  | 4 => (pop0 1 L).map (0 :: ·)
  | 5 => (pop0 2 L).map (0 :: ·)
  | 6 => (pop0 c.2.1 L).map (0 :: ·)
  | 7 => (pop0 2 L).map (0 :: ·)
  | 8 => (pop0 c.2.1 L).map (0 :: ·)
  | 9 => (pop0 c.2.2.1 L).map (0 :: ·)
  | 10 => if c.2.2.1 ≤ 2 then (pop0 c.2.2.1 L).map (0 :: ·) else none
  | 11 => pay L
  | 12 => (pop0 c.2.1 L).bind pay
  | 13 => (match L with | 0 :: 5 :: M => if nF M < 10 then some (4 :: M) else none | _ => none)
  | 14 => if c.2.2.1 = 1 then (match L with | 5 :: 2 :: M => some M | _ => none) else if c.2.2.1 = 2 then (match L with | 4 :: 5 :: M => some M | _ => none) else (match L with | 4 :: M => some M | _ => none)
  | 15 => (match L with | 5 :: M => some (5 :: 5 :: M) | _ => none)
  | 16 => (match L with | 0 :: _ => none | 1 :: _ => none | _ => some (5 :: L))
  | 17 => (match L with | 0 :: 5 :: M => if nF M < 10 then some (2 :: M) else none | _ => none)
  | 18 => (match L with | 2 :: M => some (5 :: 2 :: M) | _ => none)
  | 19 => pay L
  | 20 => (match L with | 0 :: 5 :: M => some M | [0] => some [] | _ => none)
  | 21 => pay L
  | 22 => pay L
  | 23 => (match L with | 5 :: M => if nF M < 10 then some (3 :: M) else none | _ => none)
  | 24 => (match L with | 3 :: M => some (9 :: M) | _ => none)
  | 25 => (match L with | 9 :: M => some M | _ => none)
  | 26 => (match L with | 4 :: M => some M | _ => none)
  | _ => none
def lyo (code : List Ins) : Option (List Nat) := code.foldlM (fun L c => eff c L) []
theorem lyo_app {code : List Ins} {c : Ins} : lyo (code ++ [c]) = (lyo code).bind (eff c) := by
  unfold lyo
  rw [List.foldlM_append]
  cases List.foldlM (fun L c => eff c L) [] code with
  | none => rfl
  | some L => simp
theorem pop0_app {k : Nat} {L : List Nat} : pop0 k (List.replicate k 0 ++ L) = some L := by
  induction k with
  | zero => rfl
  | succ k ih => exact ih
/-- an instruction's own numbers -/
def okI (nv : Nat) (c : Ins) : Prop := (c.1 = 1 ∨ c.1 = 11 ∨ c.1 = 12 ∨ c.1 = 18 ∨ c.1 = 23 ∨ c.1 = 25 → c.2.2.1 < 8 + nv) ∧ (c.1 = 5 → okS c.2.2.1 ∧ lv c.2.2.1 ≤ 3) ∧ (c.1 = 8 → c.2.2.1 < 28 ∧ (c.2.2.1 = 5 → c.2.1 ≤ 6) ∧ (¬ c.2.2.1 = 5 → c.2.1 = if c.2.2.1 = 3 ∨ 19 ≤ c.2.2.1 then 2 else 1)) ∧ (c.1 = 10 → c.2.2.1 = 1 ∨ c.2.2.1 = 2) ∧ (c.1 = 12 → (c.2.1 = 1 ∨ c.2.1 = 2) ∧ (c.2.1 = 2 → ¬ c.2.2.2.2.2.2 = -Int32.ofNat 1)) ∧ (c.1 = 6 → c.2.1 ≤ 2000) ∧ (c.1 = 9 → c.2.2.1 ≤ 2000)
theorem okI.mono {nv nv' : Nat} {c : Ins} (h : okI nv c) (hl : nv ≤ nv') : okI nv' c := ⟨fun z => by have := h.1 z; omega, h.2⟩
/-- no jump -/
def noJ (c : Ins) : Prop := ¬ (c.1 = 13 ∨ c.1 = 14 ∨ c.1 = 18 ∨ c.1 = 23 ∨ c.1 = 24)
/-- neither a call nor a jump -/
def xp (c : Ins) : Prop := ¬ (c.1 = 9 ∨ c.1 = 10) ∧ noJ c
/-- code from fs.1 on is the function's, with nv variables; cu lies on the stack at its end; no jumps from fs.2.1 on -/
def TY (fs : Nat × Nat × Nat) (nv : Nat) (cu : List Nat) (code : List Ins) : Prop := fs.1 ≤ code.length ∧ lyo code = some cu ∧ (∀ c ∈ code.drop fs.1, okI nv c) ∧ fs.2.1 ≤ code.length ∧ (∀ c ∈ code.drop fs.2.1, noJ c) ∧ fs.2.2 ≤ nv
theorem TY.app {fs : Nat × Nat × Nat} {js nv nv' : Nat} {cu cu' : List Nat} {code : List Ins} {c : Ins} (h : TY fs nv cu code) (hl : nv ≤ nv') (hc : eff c cu = some cu') (ho : okI nv' c) (hj : (js = fs.2.1 ∧ noJ c) ∨ js = code.length + 1) : TY (fs.1, js, fs.2.2) nv' cu' (code ++ [c]) := by
  obtain ⟨h1, h2, h3, h4, h5, h6⟩ := h
  refine ⟨by rw [List.length_append]; show fs.1 ≤ _; omega, by rw [lyo_app, h2]; exact hc, fun x hx => ?_, ?_, fun x hx => ?_, Nat.le_trans h6 hl⟩
  · have hx : x ∈ (code ++ [c]).drop fs.1 := hx
    rw [List.drop_append_of_le_length h1, List.mem_append] at hx
    rcases hx with hx | hx
    · exact (h3 x hx).mono hl
    · rw [List.mem_singleton] at hx
      rw [hx]
      exact ho
  · show js ≤ (code ++ [c]).length
    rw [List.length_append, List.length_singleton]
    rcases hj with z | z <;> omega
  · have hx : x ∈ (code ++ [c]).drop js := hx
    rcases hj with z | z
    · rw [z.1, List.drop_append_of_le_length h4, List.mem_append] at hx
      rcases hx with hx | hx
      · exact h5 x hx
      · rw [List.mem_singleton] at hx
        rw [hx]
        exact z.2
    · rw [List.drop_of_length_le (by rw [List.length_append, List.length_singleton]; omega)] at hx
      exact absurd hx (List.not_mem_nil)
theorem TY.mono {fs : Nat × Nat × Nat} {nv nv' : Nat} {cu : List Nat} {code : List Ins} (h : TY fs nv cu code) (hl : nv ≤ nv') : TY fs nv' cu code := ⟨h.1, h.2.1, fun x hx => (h.2.2.1 x hx).mono hl, h.2.2.2.1, h.2.2.2.2.1, Nat.le_trans h.2.2.2.2.2 hl⟩
abbrev dI : Ins := (0, 0, 0, 0, 0, 0, 0)
/-- a call that is noted, and its instruction -/
def okN (code : List Ins) (x : Cn) : Prop := x.1 < code.length ∧ okL x.2.2.1 ∧ x.2.2.1.length ≤ 8 ∧ x.2.2.2.1 ≤ 1600 ∧ x.2.2.2.2 ≤ 2000 ∧ (code.getD x.1 dI).2.2.1 = x.2.2.2.2 ∧ (((code.getD x.1 dI).1 = 9 ∧ x.2.1 = 0) ∨ ((code.getD x.1 dI).1 = 10 ∧ x.2.1 = 1))
/-- the calls of cl are noted; each call of the code stands in cp -/
def okX (code : List Ins) (cl cp : List Cn) : Prop := (∀ x ∈ cl, okN code x) ∧ ∀ m, m < code.length → ((code.getD m dI).1 = 9 ∨ (code.getD m dI).1 = 10) → ∃ x ∈ cp, x.1 = m
theorem okN.app {code : List Ins} {c : Ins} {x : Cn} (h : okN code x) : okN (code ++ [c]) x := by
  obtain ⟨h1, h2, h3, h4, h5, h6, h7⟩ := h
  refine ⟨by rw [List.length_append]; omega, h2, h3, h4, h5, ?_, ?_⟩
  · rw [getD_app h1]
    exact h6
  · rw [getD_app h1]
    exact h7
theorem okX.app {code : List Ins} {c : Ins} {cl cp : List Cn} (h : okX code cl cp) (hc : c.1 = 9 ∨ c.1 = 10 → ∃ x ∈ cp, x.1 = code.length) : okX (code ++ [c]) cl cp := by
  refine ⟨fun x hx => (h.1 x hx).app, fun m hm hk => ?_⟩
  rw [List.length_append, List.length_singleton] at hm
  by_cases z : m < code.length
  · rw [getD_app z] at hk
    exact h.2 m z hk
  · have z : m = code.length := by omega
    subst z
    rw [getD_last] at hk
    exact hc hk
/-- both parsers: at token i, op brackets open, D tokens not yet paid for; code of the class, code of the reference, variables, calls, what waits, what lies on the stack, where the function begins -/
def PEg (b : Nat → Nat) (n p e i op D : Nat) (code code' : List Ins) (vs : List (List Nat)) (cl cp : List Cn) (W : List Wt) (cu : List Nat) (fs : Nat × Nat × Nat) (t : cS) (s : mS) : Prop := pR b n i op t s ∧ cCd t p (CA code) ∧ rCd s e (RA e code') ∧ (wfC code ∧ wfC code' ∧ ∃ fl, code = code' ++ fl) ∧ rW s W ∧ VR vs t s ∧ cCl t (cl.map (cK code)) ∧ rCl s (cl.map (rK e code)) ∧ okX code cl cp ∧ TY fs vs.length cu code ∧ rl code + xl code + cl.length + D ≤ i + 1 ∧ cl.length ≤ rl code ∧ cx code + 3 * D ≤ 4 * i + 4
abbrev PE (b : Nat → Nat) (n p e i op D : Nat) (code code' : List Ins) (vs : List (List Nat)) (cl : List Cn) (W : List Wt) (cu : List Nat) (fs : Nat × Nat × Nat) (t : cS) (s : mS) : Prop := PEg b n p e i op D code code' vs cl cl W cu fs t s
theorem PE.cps {b : Nat → Nat} {n p e i op D : Nat} {code code' : List Ins} {vs : List (List Nat)} {cl cp : List Cn} {W : List Wt} {cu : List Nat} {fs : Nat × Nat × Nat} {t : cS} {s : mS} (h : PE b n p e i op D code code' vs cl W cu fs t s) (hc : ∀ x ∈ cl, x ∈ cp) : PEg b n p e i op D code code' vs cl cp W cu fs t s := by
  obtain ⟨h1, hc', hr, hw, hW, hV, k1, k2, k3, k4⟩ := h
  refine ⟨h1, hc', hr, hw, hW, hV, k1, k2, ⟨k3.1, fun m hm hk => ?_⟩, k4⟩
  obtain ⟨x, hx, he⟩ := k3.2 m hm hk
  exact ⟨x, hc x hx, he⟩
/-- what the class's parser may change -/
abbrev eQ (p : Nat) : Nat → Nat → Prop := fun k f => (k = 3 ∧ (f = 4 ∨ f = 5 ∨ f = 6)) ∨ (k = 2 ∧ (f = 2 ∨ f = 4 ∨ f = 9 ∨ f = 10 ∨ f = 11)) ∨ (k = p ∧ f = 3)
abbrev aQ (p : Nat) : Nat → Prop := fun k => k = 7 ∨ k = 8 ∨ k = 9 ∨ k = 10 ∨ k = 11 ∨ k = p + 1 ∨ k = p + 2 ∨ k = p + 3
/-- what waits has been put there so -/
def Kd (s : mS) : Prop := ∃ W, rW s W
theorem Kd.kp {s s' : mS} (h1 : s'.1 44 = s.1 44) (h2 : ∀ q, q = 38 ∨ q = 39 ∨ q = 40 ∨ q = 41 ∨ q = 43 → s'.2.2.1 q = s.2.2.1 q) (h3 : s'.2.2.2 42 = s.2.2.2 42) (h : Kd s) : Kd s' := by
  obtain ⟨W, a1, a2, a3⟩ := h
  exact ⟨W, by rw [h1]; exact a1, a2, by rw [h2 38 (by omega), h2 39 (by omega), h2 40 (by omega), h2 41 (by omega), h2 43 (by omega), h3]; exact a3⟩
/-- and the reference's -/
def fQ (e : Nat) (s s' : mS) : Prop := (∀ q, ¬ (q = 5 ∨ q = 6 ∨ q = 8 ∨ q = 9 ∨ q = 10 ∨ q = 11 ∨ q = 22 ∨ q = 28 ∨ q = 29 ∨ q = 44) → s'.1 q = s.1 q) ∧ (∀ q, ¬ q = 7 → s'.2.1 q = s.2.1 q) ∧ (∀ q, ¬ (q = 23 ∨ q = 24 ∨ q = 25 ∨ q = 26 ∨ q = 27 ∨ q = 30 ∨ q = 31 ∨ q = 32 ∨ q = 38 ∨ q = 39 ∨ q = 40 ∨ q = 41 ∨ q = 43) → s'.2.2.1 q = s.2.2.1 q) ∧ (∀ q, ¬ (q = 21 ∨ q = 33 ∨ q = 42) → s'.2.2.2 q = s.2.2.2 q) ∧ (∀ q y, (q = 23 ∨ q = 24 ∨ q = 25 ∨ q = 26 ∨ q = 27) → (y < ob0 e ∨ ob0 e + 4000 ≤ y) → s'.2.2.1 q y = s.2.2.1 q y) ∧ (Kd s → Kd s')
theorem fQ.rf {e : Nat} {s : mS} : fQ e s s := ⟨fun _ _ => rfl, fun _ _ => rfl, fun _ _ => rfl, fun _ _ => rfl, fun _ _ _ _ => rfl, fun z => z⟩
theorem fQ.tr {e : Nat} {s s1 s2 : mS} (h : fQ e s s1) (g : fQ e s1 s2) : fQ e s s2 := ⟨fun q r => (g.1 q r).trans (h.1 q r), fun q r => (g.2.1 q r).trans (h.2.1 q r), fun q r => (g.2.2.1 q r).trans (h.2.2.1 q r), fun q r => (g.2.2.2.1 q r).trans (h.2.2.2.1 q r), fun q y r1 r2 => (g.2.2.2.2.1 q y r1 r2).trans (h.2.2.2.2.1 q y r1 r2), fun z => g.2.2.2.2.2 (h.2.2.2.2.2 z)⟩
section KEE
variable {N : Nat} {X : Nat → Option zz_C} {t t' : cS} {s s' : mS} {b : Nat → Nat} {n p e i op D : Nat} {code code' : List Ins} {vs : List (List Nat)} {cl : List Cn} {W : List Wt} {cu : List Nat} {fs : Nat × Nat × Nat} {E : Nat → Nat → Prop} {A : Nat → Prop}
theorem fPs.Q (f : fPs s s') : fQ e s s' := ⟨fun q r => f.1 q (by omega), f.2.1, fun q r => f.2.2.1 q (fun z => z), fun q r => f.2.2.2 q (fun z => z), fun q y _ _ => congrFun (f.2.2.1 q (fun z => z)) y, Kd.kp (f.1 44 (by omega)) (fun q _ => f.2.2.1 q (fun z => z)) (f.2.2.2 42 (fun z => z))⟩
theorem fV.Q (f : fV s s') : fQ e s s' := ⟨fun q r => f.1 q (by omega), f.2.1, fun q r => f.2.2.1 q (fun z => z), fun q r => f.2.2.2 q (by omega), fun q y _ _ => congrFun (f.2.2.1 q (fun z => z)) y, Kd.kp (f.1 44 (by omega)) (fun q _ => f.2.2.1 q (fun z => z)) (f.2.2.2 42 (by omega))⟩
theorem fO.Q (f : fO e s s') : fQ e s s' := ⟨fun q r => f.1 q (by omega), fun q _ => f.2.1 q, fun q r => f.2.2.1 q (by omega), fun q r => f.2.2.2.1 q, fun q y _ r => f.2.2.2.2 q y r, Kd.kp (f.1 44 (by omega)) (fun q _ => f.2.2.1 q (by omega)) (f.2.2.2.1 42)⟩
theorem fN.Q (f : fN s s') : fQ e s s' := ⟨fun q r => f.1 q (by omega), fun q _ => f.2.1 q (fun z => z), fun q r => f.2.2.1 q (by omega), fun q r => f.2.2.2 q (by omega), fun q y r _ => congrFun (f.2.2.1 q (by omega)) y, Kd.kp (f.1 44 (by omega)) (fun q _ => f.2.2.1 q (by omega)) (f.2.2.2 42 (by omega))⟩
theorem fW.Q (f : fW s s') (k : Kd s') : fQ e s s' := ⟨fun q r => f.1 q (by omega), fun q _ => f.2.1 q (fun z => z), fun q r => f.2.2.1 q (by omega), fun q r => f.2.2.2 q (by omega), fun q y r _ => congrFun (f.2.2.1 q (by omega)) y, fun _ => k⟩
theorem pR.kC (h : pR b n i op t s) (g : gL E A t t') (gl : kL t' = kL t) (hE : ∀ k f, E k f → ¬ (k = 3) ∧ ¬ (k = 2 ∧ (f = 2 ∨ f = 10 ∨ f = 11))) (hA : ∀ k, A k → ¬ (k = 4 ∨ k = 5 ∨ k = 6)) : pR b n i op t' s := by
  obtain ⟨⟨h1, h2, h3, h4, h5, h6, h7, h8⟩, ⟨c4, hl, c5, c6, c7⟩, d3, d4, d5, d6, d7, d8, d9, d10⟩ := h
  have e3 : ∀ f, kI t' 3 f = kI t 3 f := fun f => g.1 3 f (fun z => (hE 3 f z).1 rfl)
  have a4 := (g.2.2.1 4 (fun z => hA 4 z (Or.inl rfl)) (by decide)).1
  have a5 := (g.2.2.1 5 (fun z => hA 5 z (Or.inr (Or.inl rfl))) (by decide)).1
  have a6 := (g.2.2.1 6 (fun z => hA 6 z (Or.inr (Or.inr rfl))) (by decide)).2.1
  refine ⟨⟨by rw [e3]; exact h1, by rw [a4, a5, a6]; exact h2, by rw [a4, a5]; exact h3, by rw [a4, a6]; exact h4, by rw [a4]; exact h5, by rw [a4]; exact h6, by rw [a4]; exact h7, g.rm h8⟩, ⟨by rw [e3]; exact c4, hl, by rw [e3]; exact c5, by rw [e3]; exact c6, by rw [gl]; exact c7⟩, ?_, d4, d5, d6, d7, d8, d9, d10⟩
  rw [g.1 2 2 (fun z => (hE 2 2 z).2 ⟨rfl, Or.inl rfl⟩), g.1 2 10 (fun z => (hE 2 10 z).2 ⟨rfl, Or.inr (Or.inl rfl)⟩), g.1 2 11 (fun z => (hE 2 11 z).2 ⟨rfl, Or.inr (Or.inr rfl)⟩)]
  exact d3
theorem pR.kR (h : pR b n i op t s) (h1 : ∀ q, q = 4 ∨ q = 5 ∨ q = 6 ∨ q = 8 ∨ q = 9 ∨ q = 11 → s'.1 q = s.1 q) (h2 : s'.2.1 7 = s.2.1 7) (h3 : s'.2.2.1 2 = s.2.2.1 2) (h4 : s'.2.2.2 0 = s.2.2.2 0) : pR b n i op t s' := by
  obtain ⟨c1, c2, d3, d4, d5, ⟨x1, x2, x3, x4⟩, ⟨hi, k1, k2, k3⟩, d8, d9, d10⟩ := h
  refine ⟨c1, c2, d3, d4, d5, ⟨by rw [h1 4 (by omega)]; exact x1, x2, x3, by rw [h3]; exact x4⟩, ⟨hi, by rw [h1 6 (by omega)]; exact k1, by rw [h1 8 (by omega)]; exact k2, by rw [h1 5 (by omega), h2]; exact k3⟩, fun w hw => by rw [h4]; exact d8 w hw, by rw [h1 11 (by omega)]; exact d9, by rw [h1 9 (by omega)]; exact d10⟩
theorem cCd.keep {L : List C3} (h : cCd t p L) (g : gL E A t t') (hE : ¬ E p 3) (hA : ∀ k, A k → ¬ (k = p + 1 ∨ k = p + 2 ∨ k = p + 3)) (hP : kP t' 2 1 = kP t 2 1) : cCd t' p L := by
  obtain ⟨h0, hp, h1, h2, h3, h4, h5, h6, h7⟩ := h
  have a1 := (g.2.2.1 (p + 1) (fun z => hA _ z (Or.inl rfl)) (by omega)).1
  have a2 := (g.2.2.1 (p + 2) (fun z => hA _ z (Or.inr (Or.inl rfl))) (by omega)).1
  have a3 := (g.2.2.1 (p + 3) (fun z => hA _ z (Or.inr (Or.inr rfl))) (by omega)).1
  exact ⟨by rw [hP]; exact h0, hp, by rw [g.1 _ _ hE]; exact h1, by rw [a1, a2, a3]; exact h2, by rw [a1, a2]; exact h3, by rw [a1, a3]; exact h4, by rw [a1]; exact h5, by rw [a1]; exact h6, by rw [a1]; exact h7⟩
theorem cCl.keep {L : List K4} (h : cCl t L) (g : gL E A t t') (hE : ¬ E 2 9) (hA : ∀ k, A k → ¬ (k = 8 ∨ k = 9 ∨ k = 10 ∨ k = 11)) : cCl t' L := by
  obtain ⟨h1, h2, h3, h4, h4b, h5, h6, h7⟩ := h
  have a8 := (g.2.2.1 8 (fun z => hA 8 z (by omega)) (by decide)).1
  have a9 := (g.2.2.1 9 (fun z => hA 9 z (by omega)) (by decide)).2.1
  have a10 := (g.2.2.1 10 (fun z => hA 10 z (by omega)) (by decide)).1
  have a11 := (g.2.2.1 11 (fun z => hA 11 z (by omega)) (by decide)).1
  exact ⟨by rw [g.1 _ _ hE]; exact h1, by rw [a8, a9, a10, a11]; exact h2, by rw [a8, a9]; exact h3, by rw [a8, a10]; exact h4, by rw [a8, a11]; exact h4b, by rw [a8]; exact h5, by rw [a8]; exact h6, by rw [a8]; exact h7⟩
theorem rCd.keep {L : List R5} (h : rCd s e L) (h1 : s'.1 12 = s.1 12) (h2 : s'.1 28 = s.1 28) (h3 : ∀ q, q = 23 ∨ q = 24 ∨ q = 25 ∨ q = 26 ∨ q = 27 → s'.2.2.1 q = s.2.2.1 q) : rCd s' e L := by
  obtain ⟨a1, a2, a3, a4, a5⟩ := h
  exact ⟨by rw [h1]; exact a1, a2, by rw [h2]; exact a3, a4, by rw [h3 23 (by omega), h3 24 (by omega), h3 25 (by omega), h3 26 (by omega), h3 27 (by omega)]; exact a5⟩
theorem rCl.keep {L : List K4} (h : rCl s L) (h1 : s'.1 29 = s.1 29) (h2 : ∀ q, q = 30 ∨ q = 31 ∨ q = 32 → s'.2.2.1 q = s.2.2.1 q) (h3 : s'.2.2.2 33 = s.2.2.2 33) : rCl s' L := by
  obtain ⟨a1, a2, a3⟩ := h
  exact ⟨by rw [h1]; exact a1, a2, by rw [h2 30 (by omega), h2 31 (by omega), h2 32 (by omega), h3]; exact a3⟩
theorem rW.keep {W : List Wt} (h : rW s W) (h1 : s'.1 44 = s.1 44) (h2 : ∀ q, q = 38 ∨ q = 39 ∨ q = 40 ∨ q = 41 ∨ q = 43 → s'.2.2.1 q = s.2.2.1 q) (h3 : s'.2.2.2 42 = s.2.2.2 42) : rW s' W := by
  obtain ⟨a1, a2, a3⟩ := h
  exact ⟨by rw [h1]; exact a1, a2, by rw [h2 38 (by omega), h2 39 (by omega), h2 40 (by omega), h2 41 (by omega), h2 43 (by omega), h3]; exact a3⟩
/-- a token more, not yet paid for -/
theorem PE.adv (hN : 170000 ≤ N) (h : PE b n p e i op D code code' vs cl W cu fs t s) (h2 : ∀ hi : i < (TL b n).length, 2 ≤ (TL b n)[i].1) : ∃ t' s', cf_46 N X t = some (t', .inl none) ∧ mf_260 N s = some (s', none) ∧ PE b n p e (i + 1) op (D + 1) code code' vs cl W cu fs t' s' ∧ gL (eQ p) (aQ p) t t' ∧ fQ e s s' := by
  obtain ⟨h1, hc, hr, hw, hW, hV, k1, k2, k3, k4, k5, k6, k7⟩ := h
  obtain ⟨t', s', a1, a2, a3, a4, a5⟩ := p_adv (N := N) (X := X) hN h1 h2
  have hp := hc.2.1
  refine ⟨t', s', a1, a2, ⟨a3, hc.keep a4 (by rcases hp with z | z <;> subst z <;> omega) (fun _ z => z.elim) (a4.p21 (by omega)), hr.keep (a5.1 12 (by omega)) (a5.1 28 (by omega)) (fun q _ => a5.2.2.1 q (fun z => z)), hw, hW.keep (a5.1 44 (by omega)) (fun q _ => a5.2.2.1 q (fun z => z)) (a5.2.2.2 42 (fun z => z)), hV.keep (a4.1 2 4 (by omega)) (a4.2.2.1 7 (fun z => z) (by decide)).2.1 (a5.1 22 (by omega)) (a5.2.2.2 21 (fun z => z)), k1.keep a4 (by omega) (fun _ z => z.elim), k2.keep (a5.1 29 (by omega)) (fun q _ => a5.2.2.1 q (fun z => z)) (a5.2.2.2 33 (fun z => z)), k3, k4, by omega, k6, by omega⟩, a4.mono (by omega) (fun _ z => z.elim), fPs.Q a5⟩
end KEE
