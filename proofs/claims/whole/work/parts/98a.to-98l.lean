-- ### 98a.pure.lean.txt
section
/-! ===== PURE: run (78): stacks ===== -/
/-- a list, its last-laid first, lies in an array: P its elements -/
def stk {α β : Type} (P : β → α → Prop) (g : Nat → β) : List α → Prop
  | [] => True
  | x :: l => P (g l.length) x ∧ stk P g l
theorem stk.mono {α β : Type} {P P' : β → α → Prop} {g g' : Nat → β} : ∀ {l : List α}, stk P g l → (∀ v x, x ∈ l → P v x → P' v x) → (∀ i, i < l.length → g' i = g i) → stk P' g' l
  | [], _, _, _ => trivial
  | x :: l, h, hp, hg => by
    refine ⟨?_, stk.mono h.2 (fun v y hy => hp v y (List.mem_cons_of_mem _ hy)) (fun i hi => hg i (Nat.lt_succ_of_lt hi))⟩
    rw [hg l.length (Nat.lt_succ_self _)]
    exact hp _ _ List.mem_cons_self h.1
theorem stk.app {α β : Type} {P : β → α → Prop} {g : Nat → β} : ∀ {l l' : List α}, stk P g (l ++ l') → stk P g l'
  | [], _, h => h
  | _ :: l, l', h => stk.app (l := l) h.2
theorem stk.get {α β : Type} {P : β → α → Prop} {g : Nat → β} : ∀ {l : List α} {i : Nat} (hi : i < l.length), stk P g l → P (g (l.length - 1 - i)) l[i]
  | x :: l, 0, _, h => by
    show P (g (l.length + 1 - 1 - 0)) x
    rw [Nat.sub_zero, Nat.add_sub_cancel]
    exact h.1
  | x :: l, i + 1, hi, h => by
    have hi' : i < l.length := Nat.lt_of_succ_lt_succ hi
    have := stk.get hi' h.2
    show P (g (l.length + 1 - 1 - (i + 1))) l[i]
    rw [show l.length + 1 - 1 - (i + 1) = l.length - 1 - i by omega]
    exact this
/-- one of them is laid anew -/
theorem stk.upd {α β : Type} {P : β → α → Prop} {g g' : Nat → β} {v : β} {y : α} : ∀ {l : List α} {i : Nat} (hi : i < l.length), stk P g l → P v y → (∀ j, g' j = if j = l.length - 1 - i then v else g j) → stk P g' (l.set i y)
  | x :: l, 0, _, h, hv, hg => by
    refine ⟨?_, h.2.mono (fun _ _ _ z => z) (fun j hj => ?_)⟩
    · rw [hg, if_pos (by show l.length = l.length + 1 - 1 - 0; omega)]
      exact hv
    · rw [hg, if_neg (by show ¬ j = l.length + 1 - 1 - 0; omega)]
  | x :: l, i + 1, hi, h, hv, hg => by
    have hi' : i < l.length := Nat.lt_of_succ_lt_succ hi
    refine ⟨?_, stk.upd hi' h.2 hv (fun j => ?_)⟩
    · rw [hg, List.length_set, if_neg (by show ¬ l.length = l.length + 1 - 1 - (i + 1); omega)]
      exact h.1
    · rw [hg, show (x :: l).length - 1 - (i + 1) = l.length - 1 - i by show l.length + 1 - 1 - (i + 1) = _; omega]
/-- nothing -/
def bare : Int64 := tg (-1) 0
/-- what a long of the class's stack is -/
def cC (g : Nat → Int64) (u : Nat) (v : Int64) : Option Nod → Prop
  | none => v = bare
  | some x => cN g u v x
/-- the class's stack has l -/
def cSk (t : cS) (u : Nat) (l : List (Option Nod)) : Prop := stk (cC (cel t) u) (kB t 52).2 l ∧ l.length ≤ (kB t 52).1 ∧ 1 ≤ (kB t 52).1 ∧ (kB t 52).1 ≤ 40000
abbrev e8 : Nat → Nat → Prop := fun k f => k = 49 ∧ f = 8
abbrev a52 : Nat → Prop := fun k => k = 52
section CST
variable {N : Nat} {X : Nat → Option zz_C} {t t' t'' : cS} {u w u' w' n k : Nat} {v : Int64} {o : Option Nod} {l : List (Option Nod)} {E : Nat → Nat → Prop} {A : Nat → Prop} {x : Nod}
theorem cC.mono {g g' : Nat → Int64} (hg : ∀ y, y < u → g' y = g y) (hu : u ≤ u') (h : cC g u v o) : cC g' u' v o := by
  cases o with
  | none => exact h
  | some x => exact cN.mono hg hu h
theorem cSk.keep (h : cSk t u l) (g : gf E A t t') (h1 : ¬ A 43) (h2 : ¬ A 52) : cSk t' u l := by
  have e1 := (g.2.2.2.1 52 h2 (by decide)).2.1
  have e2 := (g.2.2.2.1 43 h1 (by decide)).2.1
  unfold cSk cel
  rw [e1, e2]
  exact h
theorem gf.hp (g : gf E A t t') (h : cHp t u w) (h1 : ¬ E 42 1) (h2 : ¬ E 42 3) (h3 : ¬ A 43) (h4 : ¬ A 44) (h5 : ¬ A 46) : cHp t' u w := by
  obtain ⟨a1, a2, a3, a4, a5, a6, a7, a8, a9, a10⟩ := h
  obtain ⟨g1, g2, g3, g4, g5, g6, g7, g8, g9⟩ := g
  have e1 := (g4 43 h3 (by decide)).2.1
  have e2 := (g4 44 h4 (by decide)).2.1
  have e3 := (g4 46 h5 (by decide)).1
  unfold cHp rmK
  rw [g1 42 1 h1, g1 42 3 h2, e1, e2, e3]
  exact ⟨a1, a2, a3, a4, a5, a6, a7, a8, by omega, a10⟩
theorem gf.tr2 (g : gf E A t t') (g' : gf E A t' t'') : gf E A t t'' := by
  obtain ⟨a1, a2, a3, a4, a5, a6, a7, a8, a9⟩ := g
  obtain ⟨b1, b2, b3, b4, b5, b6, b7, b8, b9⟩ := g'
  exact ⟨fun k f r => (b1 k f r).trans (a1 k f r), b2.trans a2, b3.trans a3, fun k r1 r2 => ⟨(b4 k r1 r2).1.trans (a4 k r1 r2).1, (b4 k r1 r2).2.1.trans (a4 k r1 r2).2.1, (b4 k r1 r2).2.2.trans (a4 k r1 r2).2.2⟩, b5.trans a5, b6.trans a6, Nat.le_trans a7 b7, by omega, by omega⟩
theorem gf.mono2 {E' : Nat → Nat → Prop} {A' : Nat → Prop} (g : gf E A t t') (hE : ∀ k f, E k f → E' k f) (hA : ∀ k, A k → A' k) : gf E' A' t t' := ⟨fun k f r => g.1 k f (fun q => r (hE k f q)), g.2.1, g.2.2.1, fun k r1 r2 => g.2.2.2.1 k (fun q => r1 (hA k q)) r2, g.2.2.2.2⟩
theorem gf.rf2 : gf E A t t := ⟨fun _ _ _ => rfl, rfl, rfl, fun _ _ _ => ⟨rfl, rfl, rfl⟩, rfl, rfl, Nat.le_refl _, Nat.le_refl _, Nat.le_refl _⟩
theorem gf_I {a b : Nat} {z : Int32} : gf (fun k f => k = a ∧ f = b) (fun _ => False) t (jI t a b z) := ⟨fun k f r => if_neg r, rfl, rfl, fun _ _ _ => ⟨rfl, rfl, rfl⟩, rfl, rfl, Nat.le_refl _, Nat.le_refl _, Nat.le_refl _⟩
/-- a value is laid on the class's stack -/
theorem c_push (hh : cHp t u w) (hs : cSk t u l) (h8 : kI t 49 8 = Int32.ofNat l.length) (hl : l.length ≤ 20000) (hv : cC (cel t) u v o) : ∃ t', cf_165 N X v t = some (t', .inl none) ∧ cSk t' u (o :: l) ∧ kI t' 49 8 = Int32.ofNat (l.length + 1) ∧ gf e8 a52 t t' ∧ cHp t' u w := by
  obtain ⟨s1, s2, s3, s4⟩ := hs
  have hk := hh.2.2.2.2.2.2.2.2
  have hk9 := hk.k
  have key : ∀ t', cf_165 N X v t = some (t', .inl none) → gf e8 a52 t t' → kI t' 49 8 = Int32.ofNat (l.length + 1) → (∀ y, y < l.length → (kB t' 52).2 y = (kB t 52).2 y) → (kB t' 52).2 l.length = v → l.length + 1 ≤ (kB t' 52).1 → (kB t' 52).1 ≤ 40000 → ∃ t', cf_165 N X v t = some (t', .inl none) ∧ cSk t' u (o :: l) ∧ kI t' 49 8 = Int32.ofNat (l.length + 1) ∧ gf e8 a52 t t' ∧ cHp t' u w := by
    intro t' a1 a2 a3 a4 a5 a6 a7
    have e2 := (a2.2.2.2.1 43 (by decide) (by decide)).2.1
    have hc : cel t' = cel t := by unfold cel; rw [e2]
    refine ⟨t', a1, ⟨⟨?_, ?_⟩, a6, by omega, a7⟩, a3, a2, a2.hp hh (by unfold e8; omega) (by unfold e8; omega) (by decide) (by decide) (by decide)⟩
    · rw [a5, hc]
      exact hv
    · rw [hc]
      exact s1.mono (fun _ _ _ z => z) a4
  generalize hn : l.length = n at *
  by_cases c : n = (kB t 52).1
  · have hlg := lgc2 (a := (kB t 52).1) (b := 2 * n) s3 (by omega) (by omega)
    have hm : Nat.min n (2 * n) = n := Nat.min_eq_left (by omega)
    refine key (jI (jB (jMv (jNL t (2 * n) (kcp 0 (kB t 52).2 n)) 52) 52 (vp_updL (kcp 0 (kB t 52).2 n) n v)) 49 8 (Int32.ofNat (n + 1))) ?_ ⟨fun k f r => if_neg r, rfl, rfl, fun k r1 r2 => ⟨?_, ?_, ?_⟩, rfl, rfl, ?_, ?_, ?_⟩ ?_ ?_ ?_ ?_ ?_
    · have c' : (kB t 52).1 = n := c.symm
      repeat ((first | unfold cf_165 | unfold cf_165_0 | unfold cf_165_12 | unfold cf_165_29); try simp (disch := omega) only [ev_S, ev_C, ↓reduceIte, Nat.reduceEqDiff, Nat.reduceLeDiff, Nat.reduceAdd, Nat.reduceMul, Nat.reduceSub, reduceCtorEq, l32_0, l32_1, l32_2, l32_3, l32_4, l32_8, l32_49, l32_52, h8, c', hm])
    · show (if k = 52 then kA (jNL t (2 * n) (kcp 0 (kB t 52).2 n)) 111 else kA t k) = _
      exact if_neg r1
    · show (if k = 52 then _ else (if k = 52 then _ else (if k = 111 then _ else kB t k))) = _
      rw [if_neg r1, if_neg r1, if_neg r2]
    · show (if k = 52 then _ else (if k = 111 then _ else kD t k)) = _
      rw [if_neg r1, if_neg r2]
    · show kN t ≤ kN t + 1
      omega
    · show kN t + 1 + pot t ≤ kN t + (lgc (kB t 43).1 + lgc (kB t 44).1 + (kA t 46).1 / 64 + lgc (2 * n) + lgc (kA t 55).1 + lgc (kA t 56).1 + lgc (kA t 57).1)
      unfold pot
      omega
    · show kQ t + 2 * n + poq t ≤ kQ t + (2 * (kB t 43).1 + 2 * (kB t 44).1 + 17 * (kA t 46).1 + 2 * (2 * n) + 2 * (kA t 55).1 + 2 * (kA t 56).1 + 2 * (kA t 57).1)
      unfold poq
      omega
    · rfl
    · intro y hy
      show vp_updL (kcp 0 (kB t 52).2 n) n v y = _
      rw [updL_n (by omega), kcp_lt hy]
    · show vp_updL (kcp 0 (kB t 52).2 n) n v n = _
      exact updL_s
    · show n + 1 ≤ 2 * n
      omega
    · show 2 * n ≤ 40000
      omega
  · have hn2 : n < (kB t 52).1 := by omega
    refine key (jI (jB t 52 (vp_updL (kB t 52).2 n v)) 49 8 (Int32.ofNat (n + 1))) ?_ ⟨fun k f r => if_neg r, rfl, rfl, fun k r1 r2 => ⟨rfl, if_neg r1, rfl⟩, rfl, rfl, Nat.le_refl _, Nat.le_refl _, Nat.le_refl _⟩ rfl ?_ ?_ ?_ ?_
    · repeat ((first | unfold cf_165 | unfold cf_165_0 | unfold cf_165_12 | unfold cf_165_29); try simp (disch := omega) only [ev_S, ev_C, ↓reduceIte, Nat.reduceEqDiff, Nat.reduceLeDiff, Nat.reduceAdd, Nat.reduceMul, Nat.reduceSub, reduceCtorEq, l32_0, l32_1, l32_2, l32_3, l32_4, l32_8, l32_49, l32_52, h8, c])
    · intro y hy
      show vp_updL (kB t 52).2 n v y = _
      rw [updL_n (by omega)]
    · show vp_updL (kB t 52).2 n v n = _
      exact updL_s
    · show n + 1 ≤ (kB t 52).1
      omega
    · exact s4
/-- a value is looked at -/
theorem c_peekA (hs : cSk t u l) (h8 : kI t 49 8 = Int32.ofNat l.length) (h1 : 1 ≤ k) (h2 : k ≤ l.length) : cf_167 N X (Int32.ofNat k) t = some (t, .inl (some (.long ((kB t 52).2 (l.length - k))))) := by
  obtain ⟨s1, s2, s3, s4⟩ := hs
  generalize hn : l.length = n at *
  have sb : Int32.ofNat n - Int32.ofNat k = Int32.ofNat (n - k) := (Int32.ofNat_sub _ _ h2).symm
  have g1 : ¬ k ≤ 0 := by omega
  have g2 : ¬ n < k := by omega
  unfold cf_167 cf_167_0 cf_167_4 cf_167_12 cf_167_31
  simp (disch := omega) only [ev_S, ev_C, ↓reduceIte, Nat.reduceEqDiff, Nat.reduceLeDiff, Nat.reduceAdd, Nat.reduceMul, Nat.reduceSub, reduceCtorEq, l32_0, l32_1, l32_2, l32_3, l32_4, l32_5, l32_6, l32_7, l32_8, l32_9, l32_10, l32_11, l32_12, l32_13, l32_14, l32_15, l32_16, l32_17, l32_18, l32_19, l32_20, l32_21, l32_22, l32_23, l32_24, l32_25, l32_26, l32_27, l32_28, l32_29, l32_33, l32_40, l32_41, l32_44, l32_45, l32_59, l32_61, l32_91, l32_93, l32_123, l32_125, h8, sb, g1, g2]
theorem c_peek (hs : cSk t u l) (h8 : kI t 49 8 = Int32.ofNat l.length) (h1 : 1 ≤ k) (h2 : k ≤ l.length) : ∃ v, cf_167 N X (Int32.ofNat k) t = some (t, .inl (some (.long v))) ∧ cC (cel t) u v (l[k - 1]'(by omega)) := by
  refine ⟨_, c_peekA hs h8 h1 h2, ?_⟩
  have := hs.1.get (i := k - 1) (by omega)
  rw [show l.length - 1 - (k - 1) = l.length - k by omega] at this
  exact this
/-- a value is taken off -/
theorem c_pop (hs : cSk t u (o :: l)) (h8 : kI t 49 8 = Int32.ofNat (l.length + 1)) (hl : l.length ≤ 20000) : ∃ v, cf_166 N X t = some (jI t 49 8 (Int32.ofNat l.length), .inl (some (.long v))) ∧ cC (cel t) u v o ∧ v = (kB t 52).2 l.length := by
  have p := c_peekA (N := N) (X := X) (k := 1) hs h8 (Nat.le_refl _) (by show 1 ≤ l.length + 1; omega)
  have p : cf_167 N X (Int32.ofNat 1) t = some (t, .inl (some (.long ((kB t 52).2 l.length)))) := p
  refine ⟨(kB t 52).2 l.length, ?_, hs.1.1, rfl⟩
  generalize l.length = n at *
  have sb : Int32.ofNat (n + 1) - Int32.ofNat 1 = Int32.ofNat n := by rw [← Int32.ofNat_sub _ _ (by omega)]; rfl
  have g : ¬ n < 0 := by omega
  unfold cf_166 cf_166_0 cf_166_5
  simp (disch := omega) only [ev_S, ev_C, ↓reduceIte, Nat.reduceEqDiff, Nat.reduceLeDiff, Nat.reduceAdd, Nat.reduceMul, Nat.reduceSub, reduceCtorEq, l32_0, l32_1, l32_2, l32_3, l32_4, l32_5, l32_6, l32_7, l32_8, l32_9, l32_10, l32_11, l32_12, l32_13, l32_14, l32_15, l32_16, l32_17, l32_18, l32_19, l32_20, l32_21, l32_22, l32_23, l32_24, l32_25, l32_26, l32_27, l32_28, l32_29, l32_33, l32_40, l32_41, l32_44, l32_45, l32_59, l32_61, l32_91, l32_93, l32_123, l32_125, p, h8, sb, g]
theorem cSk.tl (hs : cSk t u (o :: l)) : cSk t u l := ⟨hs.1.2, by have := hs.2.1; simp only [List.length_cons] at this; omega, hs.2.2⟩
theorem cSk.app {l' : List (Option Nod)} (hs : cSk t u (l' ++ l)) : cSk t u l := ⟨hs.1.app, by have := hs.2.1; rw [List.length_append] at this; omega, hs.2.2⟩
theorem cSk.I {a b : Nat} {z : Int32} (hs : cSk t u l) : cSk (jI t a b z) u l := hs
theorem cHp.I {a b : Nat} {z : Int32} (h : cHp t u w) (hn : ¬ a = 42) : cHp (jI t a b z) u w := gf_I.hp h (fun q => hn q.1.symm) (fun q => hn q.1.symm) (fun q => q) (fun q => q) (fun q => q)
/-- an operation upon the heap leaves the stack -/
theorem cSk.F {r : Ans} {v' : Int64} (hs : cSk t u l) (h : cF t t' u v' r) : ∃ u' w', cHp t' u' w' ∧ u ≤ u' ∧ cSk t' u' l ∧ hfw t t' ∧ (∀ y, y < u → cel t' y = cel t y) := by
  obtain ⟨u', w', h1, h2, h3, h4, h5⟩ := h
  refine ⟨u', w', h1, h3, ?_, h2, h4⟩
  have e := (h2.2.2.2.1 52 (by decide) (by decide) (by decide)).2.1
  unfold cSk
  rw [e]
  exact ⟨hs.1.mono (fun _ _ _ z => cC.mono h4 h3 z) (fun _ _ => rfl), hs.2⟩
theorem hfw.gf (h : hfw t t') : gf (fun k f => (k = 42 ∧ (f = 1 ∨ f = 3)) ∨ (k = 58 ∧ f = 1)) (fun k => k = 43 ∨ k = 44 ∨ k = 60) t t' := ⟨fun k f r => h.1 k f (fun q => r (Or.inl q)) (fun q => r (Or.inr q)), h.2.1, h.2.2.1, fun k r1 r2 => ⟨(h.2.2.2.1 k (fun q => r1 (Or.inl q)) (fun q => r1 (Or.inr (Or.inl q))) r2).1 (fun q => r1 (Or.inr (Or.inr q))), (h.2.2.2.1 k (fun q => r1 (Or.inl q)) (fun q => r1 (Or.inr (Or.inl q))) r2).2⟩, h.2.2.2.2.1, h.2.2.2.2.2.1, h.2.2.2.2.2.2.1, h.2.2.2.2.2.2.2.1, h.2.2.2.2.2.2.2.2.1⟩
end CST
end
-- ### 98b.pure.lean.txt
section
/-! ===== PURE: run (79): the machine's picture ===== -/
/-- what lies on the stack above the variables: its kind (0 a value, 1 the class's 0 of a minus, 2 a for, 3 a try, 4 a condition, 5 a step paid, 6 each, 7 what a fold had, 8 fold), THINGS (last laid first), a number (of an each or a fold: twice how many are done, one more while one is at work) -/
abbrev It : Type := Nat × List Nod × Nat
/-- an open call: its place, 1 where it goes over something, its variables, what lies above them (last laid first) -/
abbrev Fm : Type := Nat × Nat × List (Option Nod) × List It
/-- its longs on the class's stack -/
def iC (a : It) : List (Option Nod) := if a.1 = 0 ∨ a.1 = 7 then a.2.1.map some else if a.1 = 1 then [some (nZ 0)] else if a.1 = 2 ∨ a.1 = 6 ∨ a.1 = 8 then some (nZ (Int32.ofNat (if a.1 = 2 then a.2.2 else a.2.2 / 2))) :: a.2.1.map some else []
/-- its values on the reference's -/
def iR (a : It) : List Nod := if a.1 = 0 then a.2.1 else if a.1 = 6 then a.2.1.dropLast else []
def cIt (l : List It) : List (Option Nod) := l.flatMap iC
def rIt (l : List It) : List Nod := l.flatMap iR
def cStk : List Fm → List (Option Nod)
  | [] => []
  | a :: F => cIt a.2.2.2 ++ (a.2.2.1.reverse ++ cStk F)
def rStk : List Fm → List Nod
  | [] => []
  | a :: F => rIt a.2.2.2 ++ rStk F
/-- the reference's ways: what, how high its stack was, how deep -/
def wIt (b d : Nat) : List It → List (It × Nat × Nat)
  | [] => []
  | a :: l => if a.1 = 2 ∨ a.1 = 3 ∨ a.1 = 6 ∨ a.1 = 8 then (a, (rIt l).length + b, d) :: wIt b d l else wIt b d l
def wStk : List Fm → List (It × Nat × Nat)
  | [] => []
  | a :: F => wIt (rStk F).length (F.length + 1) a.2.2.2 ++ wStk F
/-- the class's tries: the place, how high its stack was, how many calls -/
def tIt (b d : Nat) : List It → List (Nat × Nat × Nat)
  | [] => []
  | a :: l => if a.1 = 3 then (a.2.2, (cIt l).length + b, d) :: tIt b d l else tIt b d l
def tStk : List Fm → List (Nat × Nat × Nat)
  | [] => []
  | a :: F => tIt (a.2.2.1.length + (cStk F).length) (F.length + 1) a.2.2.2 ++ tStk F
abbrev kd (l : List It) : List Nat := l.map fun a => a.1
/-- the instruction at a place -/
abbrev inA (code : List Ins) (m : Nat) : Ins := code.getD m dI
/-- what lies above the variables is well: from a to z the function goes -/
def okI1 (code : List Ins) (b z : Nat) (a : It) (l : List It) : Prop := a.1 ≤ 8 ∧ (a.1 = 0 ∨ a.1 = 7 → ∃ x, a.2.1 = [x]) ∧ (a.1 = 2 → ∃ x, a.2.1 = [x] ∧ (kn x = 0 → ¬ ivN x < 0 ∧ a.2.2 ≤ (ivN x).toNatClampNeg) ∧ (¬ kn x = 0 → a.2.2 ≤ szN x)) ∧ (a.1 = 3 → a.2.2 < code.length ∧ (inA code a.2.2).1 = 23 ∧ b ≤ (inA code a.2.2).2.1 ∧ (inA code a.2.2).2.1 < z ∧ (inA code (inA code a.2.2).2.1).1 = 25 ∧ (inA code (inA code a.2.2).2.1).2.2.1 = (inA code a.2.2).2.2.1 ∧ (inA code (inA code a.2.2).2.1).2.2.2.2.1 = (inA code a.2.2).2.2.2.2.1 ∧ lyo (code.take (inA code a.2.2).2.1) = some (9 :: kd l)) ∧ (a.1 = 6 → ∃ rs x, a.2.1 = rs ++ [x] ∧ rs.length = a.2.2 / 2 ∧ ¬ kn x = 0 ∧ (a.2.2 + 1) / 2 ≤ szN x) ∧ (a.1 = 8 → ∃ x, a.2.1 = [x] ∧ ¬ kn x = 0 ∧ (a.2.2 + 1) / 2 ≤ szN x)
def okIs (code : List Ins) (b z : Nat) : List It → Prop
  | [] => True
  | a :: l => okI1 code b z a l ∧ okIs code b z l
/-- nothing that goes over something -/
def plI (l : List It) : Prop := ∀ y ∈ l, y.1 ≤ 5
/-- over what it goes -/
def wlk (c : Ins) (L : List Nat) (q : Nat) (l : List It) : Prop := c.1 = 10 ∧ ((c.2.2.1 = 1 ∧ ∃ a I, l = a :: I ∧ a.1 = 6 ∧ (pop0 1 L = some (kd I) ∧ a.2.2 % 2 = if q = 7 then 1 else 0) ∧ plI I) ∨ (c.2.2.1 = 2 ∧ ∃ a y I, l = a :: y :: I ∧ a.1 = 8 ∧ y.1 = q ∧ (pop0 2 L = some (kd I) ∧ a.2.2 % 2 = if q = 7 then 1 else 0) ∧ plI I))
/-- the innermost call -/
def tyA (code : List Ins) (a : Fm) : Prop := ∃ L, lyo (code.take a.1) = some L ∧ ((a.2.1 = 0 ∧ kd a.2.2.2 = L ∧ plI a.2.2.2) ∨ (a.2.1 = 1 ∧ wlk (inA code a.1) L 0 a.2.2.2))
/-- a call that waits -/
def tyS (code : List Ins) (a : Fm) : Prop := ∃ L, lyo (code.take a.1) = some L ∧ (((inA code a.1).1 = 9 ∧ pop0 (inA code a.1).2.2.1 L = some (kd a.2.2.2) ∧ plI a.2.2.2) ∨ wlk (inA code a.1) L 7 a.2.2.2)
/-- it is one of the functions -/
def inF (code : List Ins) (Fs : List Fn) (a : Fm) : Prop := ∃ g ∈ Fs, g.2.2.2.2.1 ≤ a.1 ∧ a.1 < g.2.2.2.2.2 ∧ a.2.2.1.length = g.2.2.2.1 ∧ okIs code g.2.2.2.2.1 g.2.2.2.2.2 a.2.2.2
def tyT (code : List Ins) (Fs : List Fn) (F : List Fm) : Prop := ∀ a ∈ F, tyS code a ∧ inF code Fs a
/-- all THINGS are well -/
def gdS (l : List (Option Nod)) : Prop := ∀ x, some x ∈ l → wfN x ∧ x.1 ≤ 4
/-- where a call goes on behind -/
def cBk (code : List Ins) : List Fm → Nat
  | [] => 0
  | a :: _ => posC code a.1 + (if (inA code a.1).1 = 10 then 2 else 1)
def rBk (h : Nat) (code : List Ins) : List Fm → Int32
  | [] => -1
  | a :: _ => Int32.ofNat (ob0 h + posR code a.1 + 1)
def cFr (t : cS) (code : List Ins) : List Fm → Prop
  | [] => True
  | _ :: F => (kA t 53).2 F.length = Int32.ofNat (cStk F).length ∧ (kA t 54).2 F.length = Int32.ofNat (cBk code F) ∧ cFr t code F
/-- what a variable of the reference is -/
def rvo (h : Nat → Int32) (f : Nat) (k v : Int32) : Option Nod → Prop
  | none => k = Int32.ofNat 2
  | some x => rvl h f k v x
def rFr (s : mS) (f h : Nat) (code : List Ins) : List Fm → Prop
  | [] => True
  | a :: F => s.2.2.1 74 F.length = Int32.ofNat (rStk F).length ∧ s.2.2.1 75 F.length = rBk h code F ∧ s.2.2.1 76 F.length = Int32.ofNat (wStk F).length ∧ (∀ i, i < 14 → rvo (s.2.2.1 47) f (s.2.2.1 77 (14 * F.length + i)) (s.2.2.1 78 (14 * F.length + i)) (a.2.2.1.getD i none)) ∧ rFr s f h code F
/-- a try of the class -/
def tryP (code : List Ins) (v : Int32 × Int32 × Int32) (x : Nat × Nat × Nat) : Prop := v.1 = Int32.ofNat x.2.2 ∧ v.2.1 = Int32.ofNat x.2.1 ∧ v.2.2 = Int32.ofNat (posC code (inA code x.1).2.1)
/-- a way of the reference -/
def wayP (g : Nat → Int32) (f h : Nat) (code : List Ins) (v : Int32 × Int32 × Int32 × Int32 × Int32 × Int32) (x : It × Nat × Nat) : Prop := (x.1.1 = 2 → v.1 = Int32.ofNat 1 ∧ v.2.2.1 = Int32.ofNat x.1.2.2 ∧ ∀ y, x.1.2.1 = [y] → (kn y = 0 → v.2.1 = -1 ∧ v.2.2.2.1 = ivN y) ∧ (¬ kn y = 0 → ∃ a, v.2.1 = Int32.ofNat a ∧ LayN g (Rf f) a y ∧ v.2.2.2.1 = Int32.ofNat (szN y))) ∧ (x.1.1 = 3 → v = (Int32.ofNat 2, Int32.ofNat (ob0 h + posR code (inA code x.1.2.2).2.1), Int32.ofNat (inA code x.1.2.2).2.2.1, (inA code x.1.2.2).2.2.2.2.1, Int32.ofNat x.2.1, Int32.ofNat x.2.2)) ∧ (x.1.1 = 6 ∨ x.1.1 = 8 → v.1 = Int32.ofNat (if x.1.1 = 6 then 3 else 4) ∧ v.2.2.1 = Int32.ofNat ((x.1.2.2 + 1) / 2) ∧ (x.1.1 = 6 → v.2.2.2.2.1 = Int32.ofNat x.2.1) ∧ ∀ rs y, x.1.2.1 = rs ++ [y] → ∃ a, v.2.1 = Int32.ofNat a ∧ LayN g (Rf f) a y ∧ v.2.2.2.1 = Int32.ofNat (szN y))
/-- what the class has of it -/
def CM0 (t : cS) (u : Nat) (code : List Ins) (F : List Fm) (sh S0 : Nat → Option Nod) : Prop := cSk t u (cStk F) ∧ cFr t code F ∧ stk (tryP code) (fun i => ((kA t 55).2 i, (kA t 56).2 i, (kA t 57).2 i)) (tStk F) ∧ ((kA t 53).1 = 10 ∧ (kA t 54).1 = 10 ∧ (kB t 50).1 = 8 ∧ (kA t 51).1 = 8 ∧ (kA t 60).1 = 64) ∧ ((tStk F).length ≤ (kA t 55).1 ∧ (kA t 56).1 = (kA t 55).1 ∧ (kA t 57).1 = (kA t 55).1 ∧ 1 ≤ (kA t 55).1 ∧ (kA t 55).1 ≤ 1000) ∧ (∀ i, i < 8 → cC (cel t) u ((kB t 50).2 i) (sh i) ∧ ((kA t 51).2 i = 0 ∨ (kA t 51).2 i = 1) ∧ ((kA t 51).2 i = 0 → sh i = S0 i)) ∧ kI t 49 11 = Int32.ofNat F.length ∧ kI t 49 15 = Int32.ofNat (tStk F).length
/-- what the reference has -/
def RM0 (s : mS) (f h : Nat) (code : List Ins) (F : List Fm) (sh : Nat → Option Nod) : Prop := stk (fun v x => rvl (s.2.2.1 47) f v.1 v.2 x) (fun i => (s.2.2.1 49 i, s.2.2.1 50 i)) (rStk F) ∧ rFr s f h code F ∧ stk (wayP (s.2.2.1 47) f h code) (fun i => (s.2.2.1 80 i, s.2.2.1 81 i, s.2.2.1 82 i, s.2.2.1 83 i, s.2.2.1 84 i, s.2.2.1 85 i)) (wStk F) ∧ (∀ i, i < 8 → rvo (s.2.2.1 47) f (s.2.2.1 71 i) (s.2.2.1 72 i) (sh i)) ∧ LayN (s.2.2.1 47) (Rf f) 154240 (nR []) ∧ s.1 73 = Int32.ofNat F.length ∧ s.1 79 = Int32.ofNat (wStk F).length ∧ s.1 48 = Int32.ofNat f
/-- steps, made, the most calls, taken -/
abbrev Ty : Type := Nat × Nat × Nat × Nat
def cTy (t : cS) (fu : Nat) (T : Ty) : Prop := kI t 48 1 = Int32.ofNat fu ∧ kI t 48 2 = Int32.ofNat T.1 ∧ kI t 48 3 = Int32.ofNat T.2.1 ∧ kI t 48 4 = Int32.ofNat T.2.2.1 ∧ kI t 48 5 = Int32.ofNat T.2.2.2
def rTy (s : mS) (fu : Nat) (T : Ty) : Prop := s.1 61 = Int32.ofNat fu ∧ s.1 60 = Int32.ofNat T.1 ∧ s.1 62 = Int32.ofNat T.2.1 ∧ s.1 63 = Int32.ofNat T.2.2.1 ∧ s.1 64 = Int32.ofNat T.2.2.2
/-- all is well with the tally -/
def okTy (fu : Nat) (T : Ty) : Prop := fu ≤ 20000 ∧ T.1 ≤ fu ∧ T.2.1 ≤ 3000 ∧ T.2.2.1 ≤ 10 ∧ 300 * T.2.2.2 ≤ T.2.1
/-- the programs -/
def cEv (t : cS) (p : Nat) (code : List Ins) (Fs : List Fn) : Prop := kP t 49 16 = some p ∧ (p = 12 ∨ p = 21) ∧ cPg t p (CA code) ∧ cFt t p Fs.length code Fs
def rEv (s : mS) (h : Nat) (code : List Ins) (Fs : List Fn) : Prop := h ≤ 1 ∧ rPg s h (RA h code) ∧ rFp s h code Fs
end
-- ### 98c.pure.lean.txt
section
/-! ===== PURE: run (80): one act, one order ===== -/
theorem l32_1000000 : (1000000 : Int32) = Int32.ofNat 1000000 := rfl
section FET
variable {N : Nat} {X : Nat → Option zz_C} {t t' t1 t2 : cS} {s s1 s2 : mS} {code : List Ins} {Fs : List Fn} {p h m pc i fu st F : Nat} {a g q x2 : Int32}
theorem flat_getd {α : Type} {f : Nat → List α} {n m : Nat} {a : α} {l1 l : List α} (hm : m < n) (hf : f m = l1 ++ a :: l) : ∃ h : ((List.range m).flatMap f).length + l1.length < ((List.range n).flatMap f).length, ((List.range n).flatMap f)[((List.range m).flatMap f).length + l1.length] = a := by
  obtain ⟨d, rfl⟩ : ∃ d, n = m + (1 + d) := ⟨n - m - 1, by omega⟩
  have e2 : ((List.range 1).map (m + ·)).flatMap f = f m := by
    show (f (m + 0) ++ []) = f m
    rw [List.append_nil]
    rfl
  have e3 : ∃ r, (List.range (m + (1 + d))).flatMap f = ((List.range m).flatMap f ++ l1) ++ a :: r := by
    rw [List.range_add, List.flatMap_append, List.range_add, List.map_append, List.flatMap_append, e2, hf]
    refine ⟨l ++ (List.map (m + ·) (List.map (1 + ·) (List.range d))).flatMap f, ?_⟩
    simp only [List.append_assoc, List.cons_append]
  obtain ⟨r, hr⟩ := e3
  refine ⟨by rw [hr, List.length_append, List.length_cons, List.length_append]; omega, ?_⟩
  simp only [hr]
  rw [List.getElem_append_right (by rw [List.length_append]; omega)]
  simp only [List.length_append, Nat.sub_self, List.getElem_cons_zero]
theorem CA_at {a : C3} {l1 l : List C3} (hm : m < code.length) (h1 : cI code (posC code m) (inA code m) = l1 ++ a :: l) : ∃ h : posC code m + l1.length < (CA code).length, (CA code)[posC code m + l1.length] = a := by
  have e0 : posC code m = ((List.range m).flatMap fun k => cI code (posC code k) (code.getD k dI)).length := by
    rw [CA_pre, rng_take (Nat.le_of_lt hm)]
    rfl
  obtain ⟨g1, g2⟩ := flat_getd (f := fun k => cI code (posC code k) (code.getD k dI)) hm h1
  simp only [← e0] at g1 g2
  exact ⟨g1, g2⟩
theorem RA_at {e : Nat} {a : R5} {l1 l : List R5} (hm : m < code.length) (h1 : rI e code (inA code m) = l1 ++ a :: l) : ∃ h : posR code m + l1.length < (RA e code).length, (RA e code)[posR code m + l1.length] = a := by
  have e0 : posR code m = ((List.range m).flatMap fun k => rI e code (code.getD k dI)).length := by
    rw [RA_pre, rng_take (Nat.le_of_lt hm)]
    rfl
  obtain ⟨g1, g2⟩ := flat_getd (f := fun k => rI e code (code.getD k dI)) hm h1
  simp only [← e0] at g1 g2
  exact ⟨g1, g2⟩
/-- the class's act -/
theorem c_fet (hE : cEv t p code Fs) (hx : cx code < 6500) (hg : kI t 49 18 = Int32.ofNat 1) (hi : i < 1000000) (hn : kI t 49 17 = Int32.ofNat pc) (hp : pc < (CA code).length) (ha : (CA code)[pc] = (a, g, q)) : cf_141_L4 N X (F + 1) 0 (Int32.ofNat i) t = if a < Int32.ofNat 19 then cf_141_120 N X (cf_141_L4 N X F) (Int32.ofNat i) a g q (jI t 49 17 (Int32.ofNat (pc + 1))) else cf_141_108 N X (cf_141_L4 N X F) (Int32.ofNat i) a g q (jI t 49 17 (Int32.ofNat (pc + 1))) := by
  obtain ⟨h1, h2, ⟨g1, g2, g3, g4, g5, g6, g7⟩, -⟩ := hE
  have hl := CA_len (code := code)
  obtain ⟨d1, d2, d3⟩ := g2 pc hp
  rw [ha] at d1 d2 d3
  have d1 : (kA t (p + 1)).2 pc = a := d1
  have d2 : (kA t (p + 2)).2 pc = g := d2
  have d3 : (kA t (p + 3)).2 pc = q := d3
  have hp2 : (p = 12 ∨ p = 21) = True := eq_true h2
  have l1 : pc < (kA t (p + 1)).1 := by omega
  have l2 : pc < (kA t (p + 2)).1 := by omega
  have l3 : pc < (kA t (p + 3)).1 := by omega
  have b1 : (kA t (p + 1)).1 < 13000 := g7
  have b2 : (kA t (p + 2)).1 < 13000 := by omega
  have b3 : (kA t (p + 3)).1 < 13000 := by omega
  have n1 : ¬ (CA code).length ≤ pc := by omega
  have n2 : (CA code).length < 13000 := by omega
  clear g2 ha hl
  generalize (CA code).length = L at *
  have e1 : cf_211 N X p (Int32.ofNat pc) t = some (t, .inl (some (.int a))) := by
    unfold cf_211 cf_211_0 cf_211_4 cf_211_12 cf_211_23
    simp (disch := omega) only [ev_S, ev_C, ↓reduceIte, Nat.reduceEqDiff, Nat.reduceLeDiff, Nat.reduceAdd, Nat.reduceMul, Nat.reduceSub, reduceCtorEq, l32_0, l32_1, l32_2, l32_3, l32_4, l32_5, l32_6, l32_7, l32_8, l32_9, l32_10, l32_11, l32_12, l32_13, l32_14, l32_15, l32_16, l32_17, l32_18, l32_19, l32_20, l32_21, l32_22, l32_23, l32_24, l32_25, l32_26, l32_27, l32_28, l32_29, l32_33, l32_40, l32_41, l32_44, l32_45, l32_59, l32_61, l32_91, l32_93, l32_123, l32_125, hp2, g1, n1, d1]
  have e2 : cf_212 N X p (Int32.ofNat pc) t = some (t, .inl (some (.int g))) := by
    unfold cf_212 cf_212_0 cf_212_4 cf_212_12 cf_212_22
    simp (disch := omega) only [ev_S, ev_C, ↓reduceIte, Nat.reduceEqDiff, Nat.reduceLeDiff, Nat.reduceAdd, Nat.reduceMul, Nat.reduceSub, reduceCtorEq, l32_0, l32_1, l32_2, l32_3, l32_4, l32_5, l32_6, l32_7, l32_8, l32_9, l32_10, l32_11, l32_12, l32_13, l32_14, l32_15, l32_16, l32_17, l32_18, l32_19, l32_20, l32_21, l32_22, l32_23, l32_24, l32_25, l32_26, l32_27, l32_28, l32_29, l32_33, l32_40, l32_41, l32_44, l32_45, l32_59, l32_61, l32_91, l32_93, l32_123, l32_125, hp2, g1, n1, d2]
  have e3 : cf_213 N X p (Int32.ofNat pc) t = some (t, .inl (some (.int q))) := by
    unfold cf_213 cf_213_0 cf_213_4 cf_213_12 cf_213_22
    simp (disch := omega) only [ev_S, ev_C, ↓reduceIte, Nat.reduceEqDiff, Nat.reduceLeDiff, Nat.reduceAdd, Nat.reduceMul, Nat.reduceSub, reduceCtorEq, l32_0, l32_1, l32_2, l32_3, l32_4, l32_5, l32_6, l32_7, l32_8, l32_9, l32_10, l32_11, l32_12, l32_13, l32_14, l32_15, l32_16, l32_17, l32_18, l32_19, l32_20, l32_21, l32_22, l32_23, l32_24, l32_25, l32_26, l32_27, l32_28, l32_29, l32_33, l32_40, l32_41, l32_44, l32_45, l32_59, l32_61, l32_91, l32_93, l32_123, l32_125, hp2, g1, n1, d3]
  show cf_141_39 N X (cf_141_L4 N X F) (Int32.ofNat i) t = _
  have n3 : ¬ 1000000 ≤ i := by omega
  unfold cf_141_39 cf_141_45 cf_141_52 cf_141_63 cf_141_76 cf_141_89
  simp (disch := omega) only [ev_S, ev_C, ↓reduceIte, Nat.reduceEqDiff, Nat.reduceLeDiff, Nat.reduceAdd, Nat.reduceMul, Nat.reduceSub, reduceCtorEq, l32_0, l32_1, l32_2, l32_3, l32_4, l32_5, l32_6, l32_7, l32_8, l32_9, l32_10, l32_11, l32_12, l32_13, l32_14, l32_15, l32_16, l32_17, l32_18, l32_19, l32_20, l32_21, l32_22, l32_23, l32_24, l32_25, l32_26, l32_27, l32_28, l32_29, l32_33, l32_40, l32_41, l32_44, l32_45, l32_59, l32_61, l32_91, l32_93, l32_123, l32_125, hg, n3, h1, hp2, hn, e1, e2, e3, l32_1000000]
theorem c_rdM (ha : a < Int32.ofNat 19) (ha2 : a < Int32.ofNat 13) (hr : cf_142 N X a g q t1 = some (t2, .inl none)) : (if a < Int32.ofNat 19 then cf_141_120 N X (cf_141_L4 N X F) (Int32.ofNat i) a g q t1 else cf_141_108 N X (cf_141_L4 N X F) (Int32.ofNat i) a g q t1) = cf_141_L4 N X F 0 (Int32.ofNat (i + 1)) t2 := by
  have ha2 : (a < Int32.ofNat 13) = True := eq_true ha2
  rw [if_pos ha]
  unfold cf_141_120 cf_141_147 cf_141_157
  simp (disch := omega) only [ev_S, ev_C, ↓reduceIte, Nat.reduceEqDiff, Nat.reduceLeDiff, Nat.reduceAdd, Nat.reduceMul, Nat.reduceSub, reduceCtorEq, l32_0, l32_1, l32_2, l32_3, l32_4, l32_5, l32_6, l32_7, l32_8, l32_9, l32_10, l32_11, l32_12, l32_13, l32_14, l32_15, l32_16, l32_17, l32_18, l32_19, l32_20, l32_21, l32_22, l32_23, l32_24, l32_25, l32_26, l32_27, l32_28, l32_29, l32_33, l32_40, l32_41, l32_44, l32_45, l32_59, l32_61, l32_91, l32_93, l32_123, l32_125, ha2, hr]
theorem c_rdW (ha : a < Int32.ofNat 19) (ha2 : ¬ a < Int32.ofNat 13) (ha3 : ¬ Int32.ofNat 26 ≤ a) (hr : cf_143 N X a g q t1 = some (t2, .inl none)) : (if a < Int32.ofNat 19 then cf_141_120 N X (cf_141_L4 N X F) (Int32.ofNat i) a g q t1 else cf_141_108 N X (cf_141_L4 N X F) (Int32.ofNat i) a g q t1) = cf_141_L4 N X F 0 (Int32.ofNat (i + 1)) t2 := by
  have ha2 : (a < Int32.ofNat 13) = False := eq_false ha2
  have ha3 : (Int32.ofNat 26 ≤ a) = False := eq_false ha3
  rw [if_pos ha]
  unfold cf_141_120 cf_141_127 cf_141_134 cf_141_144 cf_141_157
  simp (disch := omega) only [ev_S, ev_C, ↓reduceIte, Nat.reduceEqDiff, Nat.reduceLeDiff, Nat.reduceAdd, Nat.reduceMul, Nat.reduceSub, reduceCtorEq, l32_0, l32_1, l32_2, l32_3, l32_4, l32_5, l32_6, l32_7, l32_8, l32_9, l32_10, l32_11, l32_12, l32_13, l32_14, l32_15, l32_16, l32_17, l32_18, l32_19, l32_20, l32_21, l32_22, l32_23, l32_24, l32_25, l32_26, l32_27, l32_28, l32_29, l32_33, l32_40, l32_41, l32_44, l32_45, l32_59, l32_61, l32_91, l32_93, l32_123, l32_125, ha2, ha3, hr]
/-- a step is done, or there is no fuel -/
theorem c_step (h1 : kI t 48 1 = Int32.ofNat fu) (h2 : kI t 48 2 = Int32.ofNat st) (hf : fu ≤ 20000) (hs : st < fu) : cf_146 N X q t = some (jI t 48 2 (Int32.ofNat (st + 1)), .inl (some (.int (Int32.ofNat 1)))) := by
  unfold cf_146 cf_146_0 cf_146_7 cf_146_20 cf_235 cf_235_0 cf_235_13
  simp (disch := omega) only [ev_S, ev_C, ↓reduceIte, Nat.reduceEqDiff, Nat.reduceLeDiff, Nat.reduceAdd, Nat.reduceMul, Nat.reduceSub, reduceCtorEq, l32_0, l32_1, l32_2, l32_3, l32_4, l32_5, l32_6, l32_7, l32_8, l32_9, l32_10, l32_11, l32_12, l32_13, l32_14, l32_15, l32_16, l32_17, l32_18, l32_19, l32_20, l32_21, l32_22, l32_23, l32_24, l32_25, l32_26, l32_27, l32_28, l32_29, l32_33, l32_40, l32_41, l32_44, l32_45, l32_59, l32_61, l32_91, l32_93, l32_123, l32_125, h1, h2, hs]
theorem c_rdSW (ha : ¬ a < Int32.ofNat 19) (ha2 : ¬ a < Int32.ofNat 13) (ha3 : ¬ Int32.ofNat 26 ≤ a) (hst : cf_146 N X q t1 = some (t', .inl (some (.int (Int32.ofNat 1))))) (hr : cf_143 N X a g q t' = some (t2, .inl none)) : (if a < Int32.ofNat 19 then cf_141_120 N X (cf_141_L4 N X F) (Int32.ofNat i) a g q t1 else cf_141_108 N X (cf_141_L4 N X F) (Int32.ofNat i) a g q t1) = cf_141_L4 N X F 0 (Int32.ofNat (i + 1)) t2 := by
  have ha2 : (a < Int32.ofNat 13) = False := eq_false ha2
  have ha3 : (Int32.ofNat 26 ≤ a) = False := eq_false ha3
  rw [if_neg ha]
  unfold cf_141_108 cf_141_114 cf_141_120 cf_141_127 cf_141_134 cf_141_144 cf_141_157
  simp (disch := omega) only [ev_S, ev_C, ↓reduceIte, Nat.reduceEqDiff, Nat.reduceLeDiff, Nat.reduceAdd, Nat.reduceMul, Nat.reduceSub, reduceCtorEq, l32_0, l32_1, l32_2, l32_3, l32_4, l32_5, l32_6, l32_7, l32_8, l32_9, l32_10, l32_11, l32_12, l32_13, l32_14, l32_15, l32_16, l32_17, l32_18, l32_19, l32_20, l32_21, l32_22, l32_23, l32_24, l32_25, l32_26, l32_27, l32_28, l32_29, l32_33, l32_40, l32_41, l32_44, l32_45, l32_59, l32_61, l32_91, l32_93, l32_123, l32_125, hst, ha2, ha3, hr]
theorem c_rdSM (ha : ¬ a < Int32.ofNat 19) (ha2 : ¬ a < Int32.ofNat 13) (ha3 : Int32.ofNat 26 ≤ a) (hst : cf_146 N X q t1 = some (t', .inl (some (.int (Int32.ofNat 1))))) (hr : cf_142 N X a g q t' = some (t2, .inl none)) : (if a < Int32.ofNat 19 then cf_141_120 N X (cf_141_L4 N X F) (Int32.ofNat i) a g q t1 else cf_141_108 N X (cf_141_L4 N X F) (Int32.ofNat i) a g q t1) = cf_141_L4 N X F 0 (Int32.ofNat (i + 1)) t2 := by
  have ha2 : (a < Int32.ofNat 13) = False := eq_false ha2
  have ha3 : (Int32.ofNat 26 ≤ a) = True := eq_true ha3
  rw [if_neg ha]
  unfold cf_141_108 cf_141_114 cf_141_120 cf_141_127 cf_141_147 cf_141_157
  simp (disch := omega) only [ev_S, ev_C, ↓reduceIte, Nat.reduceEqDiff, Nat.reduceLeDiff, Nat.reduceAdd, Nat.reduceMul, Nat.reduceSub, reduceCtorEq, l32_0, l32_1, l32_2, l32_3, l32_4, l32_5, l32_6, l32_7, l32_8, l32_9, l32_10, l32_11, l32_12, l32_13, l32_14, l32_15, l32_16, l32_17, l32_18, l32_19, l32_20, l32_21, l32_22, l32_23, l32_24, l32_25, l32_26, l32_27, l32_28, l32_29, l32_33, l32_40, l32_41, l32_44, l32_45, l32_59, l32_61, l32_91, l32_93, l32_123, l32_125, hst, ha2, ha3, hr]
/-- the class's trouble, as it is told -/
abbrev tol (t : cS) (k q r : Int32) : cS := jI (jI (jI t 48 6 k) 48 7 q) 48 8 r
/-- it is one that ends the run -/
theorem c_fallE {k : Nat} {r : Int32} (hk : 10 ≤ k ∨ kI t 49 15 = Int32.ofNat 0) (hk2 : k < 100) : cf_156 N X (Int32.ofNat k) q r t = some (jI (tol t (Int32.ofNat k) q r) 49 18 (Int32.ofNat 0), .inl none) := by
  have e : cf_238 N X (Int32.ofNat k) q r t = some (tol t (Int32.ofNat k) q r, .inl none) := rfl
  by_cases c : 10 ≤ k
  · unfold cf_156 cf_156_0 cf_156_10 cf_156_23
    simp (disch := omega) only [ev_S, ev_C, ↓reduceIte, Nat.reduceEqDiff, Nat.reduceLeDiff, Nat.reduceAdd, Nat.reduceMul, Nat.reduceSub, reduceCtorEq, l32_0, l32_1, l32_2, l32_3, l32_4, l32_5, l32_6, l32_7, l32_8, l32_9, l32_10, l32_11, l32_12, l32_13, l32_14, l32_15, l32_16, l32_17, l32_18, l32_19, l32_20, l32_21, l32_22, l32_23, l32_24, l32_25, l32_26, l32_27, l32_28, l32_29, l32_33, l32_40, l32_41, l32_44, l32_45, l32_59, l32_61, l32_91, l32_93, l32_123, l32_125, e, c]
  · have h15 : kI (tol t (Int32.ofNat k) q r) 49 15 = Int32.ofNat 0 := hk.resolve_left c
    unfold cf_156 cf_156_0 cf_156_10 cf_156_16 cf_156_23
    simp (disch := omega) only [ev_S, ev_C, ↓reduceIte, Nat.reduceEqDiff, Nat.reduceLeDiff, Nat.reduceAdd, Nat.reduceMul, Nat.reduceSub, reduceCtorEq, l32_0, l32_1, l32_2, l32_3, l32_4, l32_5, l32_6, l32_7, l32_8, l32_9, l32_10, l32_11, l32_12, l32_13, l32_14, l32_15, l32_16, l32_17, l32_18, l32_19, l32_20, l32_21, l32_22, l32_23, l32_24, l32_25, l32_26, l32_27, l32_28, l32_29, l32_33, l32_40, l32_41, l32_44, l32_45, l32_59, l32_61, l32_91, l32_93, l32_123, l32_125, e, c, h15]
theorem c_rdX (ha : ¬ a < Int32.ofNat 19) (h1 : kI t1 48 1 = Int32.ofNat fu) (h2 : kI t1 48 2 = Int32.ofNat fu) (hf : fu ≤ 20000) : (if a < Int32.ofNat 19 then cf_141_120 N X (cf_141_L4 N X F) (Int32.ofNat i) a g q t1 else cf_141_108 N X (cf_141_L4 N X F) (Int32.ofNat i) a g q t1) = some (jI (tol t1 (Int32.ofNat 10) q (Int32.ofNat 0)) 49 18 (Int32.ofNat 0), .inl none) := by
  have e1 : cf_235 N X t1 = some (t1, .inl (some (.int (Int32.ofNat 0)))) := by
    unfold cf_235 cf_235_0 cf_235_11
    simp (disch := omega) only [ev_S, ev_C, ↓reduceIte, Nat.reduceEqDiff, Nat.reduceLeDiff, Nat.reduceAdd, Nat.reduceMul, Nat.reduceSub, reduceCtorEq, l32_0, l32_1, l32_2, l32_3, l32_4, l32_5, l32_6, l32_7, l32_8, l32_9, l32_10, l32_11, l32_12, l32_13, l32_14, l32_15, l32_16, l32_17, l32_18, l32_19, l32_20, l32_21, l32_22, l32_23, l32_24, l32_25, l32_26, l32_27, l32_28, l32_29, l32_33, l32_40, l32_41, l32_44, l32_45, l32_59, l32_61, l32_91, l32_93, l32_123, l32_125, h1, h2]
  have e2 := c_fallE (N := N) (X := X) (t := t1) (k := 10) (q := q) (r := Int32.ofNat 0) (Or.inl (Nat.le_refl _)) (by omega)
  have e3 : cf_146 N X q t1 = some (jI (tol t1 (Int32.ofNat 10) q (Int32.ofNat 0)) 49 18 (Int32.ofNat 0), .inl (some (.int (Int32.ofNat 0)))) := by
    unfold cf_146 cf_146_0 cf_146_7 cf_146_12 cf_146_20
    simp (disch := omega) only [ev_S, ev_C, ↓reduceIte, Nat.reduceEqDiff, Nat.reduceLeDiff, Nat.reduceAdd, Nat.reduceMul, Nat.reduceSub, reduceCtorEq, l32_0, l32_1, l32_2, l32_3, l32_4, l32_5, l32_6, l32_7, l32_8, l32_9, l32_10, l32_11, l32_12, l32_13, l32_14, l32_15, l32_16, l32_17, l32_18, l32_19, l32_20, l32_21, l32_22, l32_23, l32_24, l32_25, l32_26, l32_27, l32_28, l32_29, l32_33, l32_40, l32_41, l32_44, l32_45, l32_59, l32_61, l32_91, l32_93, l32_123, l32_125, e1, e2]
  have e4 : kI (jI (tol t1 (Int32.ofNat 10) q (Int32.ofNat 0)) 49 18 (Int32.ofNat 0)) 49 18 = Int32.ofNat 0 := rfl
  rw [if_neg ha]
  unfold cf_141_108 cf_141_114 cf_141_117 cf_141_163 cf_141_181
  simp (disch := omega) only [ev_S, ev_C, ↓reduceIte, Nat.reduceEqDiff, Nat.reduceLeDiff, Nat.reduceAdd, Nat.reduceMul, Nat.reduceSub, reduceCtorEq, l32_0, l32_1, l32_2, l32_3, l32_4, l32_5, l32_6, l32_7, l32_8, l32_9, l32_10, l32_11, l32_12, l32_13, l32_14, l32_15, l32_16, l32_17, l32_18, l32_19, l32_20, l32_21, l32_22, l32_23, l32_24, l32_25, l32_26, l32_27, l32_28, l32_29, l32_33, l32_40, l32_41, l32_44, l32_45, l32_59, l32_61, l32_91, l32_93, l32_123, l32_125, e3, e4]
/-- the class has ended -/
theorem c_off (hg : kI t 49 18 = Int32.ofNat 0) (hi : i ≤ 1000000) : cf_141_L4 N X (F + 1) 0 (Int32.ofNat i) t = some (t, .inl none) := by
  show cf_141_39 N X (cf_141_L4 N X F) (Int32.ofNat i) t = _
  by_cases c : 1000000 ≤ i
  · unfold cf_141_39 cf_141_163 cf_141_181
    simp (disch := omega) only [ev_S, ev_C, ↓reduceIte, Nat.reduceEqDiff, Nat.reduceLeDiff, Nat.reduceAdd, Nat.reduceMul, Nat.reduceSub, reduceCtorEq, l32_0, l32_1, l32_2, l32_3, l32_4, l32_5, l32_6, l32_7, l32_8, l32_9, l32_10, l32_11, l32_12, l32_13, l32_14, l32_15, l32_16, l32_17, l32_18, l32_19, l32_20, l32_21, l32_22, l32_23, l32_24, l32_25, l32_26, l32_27, l32_28, l32_29, l32_33, l32_40, l32_41, l32_44, l32_45, l32_59, l32_61, l32_91, l32_93, l32_123, l32_125, hg, c, l32_1000000]
  · unfold cf_141_39 cf_141_45 cf_141_163 cf_141_181
    simp (disch := omega) only [ev_S, ev_C, ↓reduceIte, Nat.reduceEqDiff, Nat.reduceLeDiff, Nat.reduceAdd, Nat.reduceMul, Nat.reduceSub, reduceCtorEq, l32_0, l32_1, l32_2, l32_3, l32_4, l32_5, l32_6, l32_7, l32_8, l32_9, l32_10, l32_11, l32_12, l32_13, l32_14, l32_15, l32_16, l32_17, l32_18, l32_19, l32_20, l32_21, l32_22, l32_23, l32_24, l32_25, l32_26, l32_27, l32_28, l32_29, l32_33, l32_40, l32_41, l32_44, l32_45, l32_59, l32_61, l32_91, l32_93, l32_123, l32_125, hg, c, l32_1000000]
end FET
end
-- ### 98d.pure.lean.txt
section
/-! ===== PURE: run (81): one order; which act, which order ===== -/
section ORD
variable {N : Nat} {X : Nat → Option zz_C} {t t' t1 t2 : cS} {s s1 s2 : mS} {code : List Ins} {Fs : List Fn} {h m pr k d F : Nat} {a b c pl x2 y0 y1 g q o : Int32} {v v' : Int64}
/-- the reference's order -/
theorem r_fet (hE : rEv s h code Fs) (hl : rl code ≤ 1610) (hd : s.1 73 = Int32.ofNat (d + 1)) (hd9 : d ≤ 9) (h66 : s.1 66 = Int32.ofNat 0) (hn : s.1 69 = Int32.ofNat (ob0 h + pr)) (hp : pr < (RA h code).length) (ha : (RA h code)[pr] = (o, a, b, c, pl)) : mf_68_L10 N (F + 1) 0 x2 s = mo_bv (mf_313 N (Int32.ofNat (ob0 h + pr)) (mI (mI s 69 (Int32.ofNat (ob0 h + pr + 1))) 70 pl)) (fun s2 => mf_68_305 N (mf_68_L10 N F) x2 s2) ∧ (s.2.2.1 23 (ob0 h + pr) = o ∧ s.2.2.1 24 (ob0 h + pr) = a ∧ s.2.2.1 25 (ob0 h + pr) = b ∧ s.2.2.1 26 (ob0 h + pr) = c) ∧ ob0 h + pr < 8000 := by
  obtain ⟨h1, h2, -⟩ := hE
  obtain ⟨d1, d2, d3, d4, d5⟩ := h2 pr hp
  rw [ha] at d1 d2 d3 d4 d5
  have hL := RA_len (e := h) (code := code)
  have ho : ob0 h ≤ 4000 := by unfold ob0; omega
  have d5 : s.2.2.1 27 (ob0 h + pr) = pl := d5
  refine ⟨?_, ⟨d1, d2, d3, d4⟩, by omega⟩
  have hlt : ob0 h + pr < 8000 := by omega
  show mf_68_258 N (mf_68_L10 N F) x2 s = _
  clear d1 d2 d3 d4 ha h2
  generalize ob0 h + pr = k at *
  have n1 : ¬ d + 1 ≤ 0 := by omega
  unfold mf_68_258 mf_68_265 mf_68_272
  simp (disch := omega) only [ev_S, ev_P, ↓reduceIte, Nat.reduceEqDiff, Nat.reduceLeDiff, Nat.reduceAdd, Nat.reduceMul, Nat.reduceSub, reduceCtorEq, l32_0, l32_1, l32_2, l32_3, l32_4, l32_5, l32_6, l32_7, l32_8, l32_9, l32_10, l32_11, l32_12, l32_13, l32_14, l32_15, l32_16, l32_17, l32_18, l32_19, l32_20, l32_21, l32_22, l32_23, l32_24, l32_25, l32_26, l32_27, l32_28, l32_29, l32_33, l32_40, l32_41, l32_44, l32_45, l32_59, l32_61, l32_91, l32_93, l32_123, l32_125, hd, n1, h66, hn, d5, l32_8000]
/-- the order is done, without a trouble -/
theorem r_ok (h1 : mf_313 N a s1 = some (s2, none)) (h66 : s2.1 66 = Int32.ofNat 0) : mo_bv (mf_313 N a s1) (fun s2 => mf_68_305 N (mf_68_L10 N F) x2 s2) = mf_68_L10 N F 0 x2 s2 := by
  unfold mf_68_305 mf_68_317
  simp (disch := omega) only [ev_S, ev_P, ↓reduceIte, Nat.reduceEqDiff, Nat.reduceLeDiff, Nat.reduceAdd, Nat.reduceMul, Nat.reduceSub, reduceCtorEq, l32_0, l32_1, l32_2, l32_3, l32_4, l32_5, l32_6, l32_7, l32_8, l32_9, l32_10, l32_11, l32_12, l32_13, l32_14, l32_15, l32_16, l32_17, l32_18, l32_19, l32_20, l32_21, l32_22, l32_23, l32_24, l32_25, l32_26, l32_27, l32_28, l32_29, l32_33, l32_40, l32_41, l32_44, l32_45, l32_59, l32_61, l32_91, l32_93, l32_123, l32_125, h1, h66]
/-- with one -/
theorem r_no (h1 : mf_313 N a s1 = some (s2, none)) (h66 : s2.1 66 = Int32.ofNat k) (hk : 0 < k ∧ k < 100) : mo_bv (mf_313 N a s1) (fun s2 => mf_68_305 N (mf_68_L10 N F) x2 s2) = mo_bi (mf_312 N s2) (fun s3 y => mf_68_L10 N F 0 x2 s3) := by
  have n1 : ¬ k ≤ 0 := by omega
  unfold mf_68_305 mf_68_312
  simp (disch := omega) only [ev_S, ev_P, ↓reduceIte, Nat.reduceEqDiff, Nat.reduceLeDiff, Nat.reduceAdd, Nat.reduceMul, Nat.reduceSub, reduceCtorEq, l32_0, l32_1, l32_2, l32_3, l32_4, l32_5, l32_6, l32_7, l32_8, l32_9, l32_10, l32_11, l32_12, l32_13, l32_14, l32_15, l32_16, l32_17, l32_18, l32_19, l32_20, l32_21, l32_22, l32_23, l32_24, l32_25, l32_26, l32_27, l32_28, l32_29, l32_33, l32_40, l32_41, l32_44, l32_45, l32_59, l32_61, l32_91, l32_93, l32_123, l32_125, h1, h66, n1]
  rfl
theorem g8 (hk : k < 8000) : ¬ (Int32.ofNat k < 0 ∨ 8000 ≤ Int32.toNatClampNeg (Int32.ofNat k)) := gd rfl hk (by omega)
theorem c8 (hk : k < 8000) : Int32.toNatClampNeg (Int32.ofNat k) = k := ev_c (by omega)
theorem r_op1 (hk : k < 8000) (h : s.2.2.1 23 k = Int32.ofNat 1) : mf_313 N (Int32.ofNat k) s = mf_313_116 N s := by
  unfold mf_313 mf_313_0
  rw [if_pos (g8 hk), c8 hk, h]
  rfl
theorem r_op2 (hk : k < 8000) (h : s.2.2.1 23 k = Int32.ofNat 2) : mf_313 N (Int32.ofNat k) s = mf_313_121 N (Int32.ofNat k) s := by
  unfold mf_313 mf_313_0
  rw [if_pos (g8 hk), c8 hk, h]
  rfl
theorem r_op3 (hk : k < 8000) (h : s.2.2.1 23 k = Int32.ofNat 3) : mf_313 N (Int32.ofNat k) s = mf_313_133 N (Int32.ofNat k) s := by
  unfold mf_313 mf_313_0
  rw [if_pos (g8 hk), c8 hk, h]
  rfl
theorem r_op4 (hk : k < 8000) (h : s.2.2.1 23 k = Int32.ofNat 4) : mf_313 N (Int32.ofNat k) s = mf_313_185 N (Int32.ofNat k) s := by
  unfold mf_313 mf_313_0
  rw [if_pos (g8 hk), c8 hk, h]
  rfl
theorem r_op5 (hk : k < 8000) (h : s.2.2.1 23 k = Int32.ofNat 5) : mf_313 N (Int32.ofNat k) s = mf_313_185 N (Int32.ofNat k) s := by
  unfold mf_313 mf_313_0
  rw [if_pos (g8 hk), c8 hk, h]
  rfl
theorem r_op6 (hk : k < 8000) (h : s.2.2.1 23 k = Int32.ofNat 6) : mf_313 N (Int32.ofNat k) s = mf_313_185 N (Int32.ofNat k) s := by
  unfold mf_313 mf_313_0
  rw [if_pos (g8 hk), c8 hk, h]
  rfl
theorem r_op7 (hk : k < 8000) (h : s.2.2.1 23 k = Int32.ofNat 7) : mf_313 N (Int32.ofNat k) s = mf_313_185 N (Int32.ofNat k) s := by
  unfold mf_313 mf_313_0
  rw [if_pos (g8 hk), c8 hk, h]
  rfl
theorem r_op8 (hk : k < 8000) (h : s.2.2.1 23 k = Int32.ofNat 8) : mf_313 N (Int32.ofNat k) s = mf_313_185 N (Int32.ofNat k) s := by
  unfold mf_313 mf_313_0
  rw [if_pos (g8 hk), c8 hk, h]
  rfl
theorem r_op9 (hk : k < 8000) (h : s.2.2.1 23 k = Int32.ofNat 9) : mf_313 N (Int32.ofNat k) s = mf_313_185 N (Int32.ofNat k) s := by
  unfold mf_313 mf_313_0
  rw [if_pos (g8 hk), c8 hk, h]
  rfl
theorem r_op10 (hk : k < 8000) (h : s.2.2.1 23 k = Int32.ofNat 10) : mf_313 N (Int32.ofNat k) s = mf_313_185 N (Int32.ofNat k) s := by
  unfold mf_313 mf_313_0
  rw [if_pos (g8 hk), c8 hk, h]
  rfl
theorem r_op11 (hk : k < 8000) (h : s.2.2.1 23 k = Int32.ofNat 11) : mf_313 N (Int32.ofNat k) s = mf_313_202 N (Int32.ofNat k) s := by
  unfold mf_313 mf_313_0
  rw [if_pos (g8 hk), c8 hk, h]
  rfl
theorem r_op12 (hk : k < 8000) (h : s.2.2.1 23 k = Int32.ofNat 12) : mf_313 N (Int32.ofNat k) s = mf_313_208 N (Int32.ofNat k) s := by
  unfold mf_313 mf_313_0
  rw [if_pos (g8 hk), c8 hk, h]
  rfl
theorem r_op13 (hk : k < 8000) (h : s.2.2.1 23 k = Int32.ofNat 13) : mf_313 N (Int32.ofNat k) s = mf_313_247 N (Int32.ofNat k) s := by
  unfold mf_313 mf_313_0
  rw [if_pos (g8 hk), c8 hk, h]
  rfl
theorem r_op14 (hk : k < 8000) (h : s.2.2.1 23 k = Int32.ofNat 14) : mf_313 N (Int32.ofNat k) s = mf_313_339 N (Int32.ofNat k) s := by
  unfold mf_313 mf_313_0
  rw [if_pos (g8 hk), c8 hk, h]
  rfl
theorem r_op15 (hk : k < 8000) (h : s.2.2.1 23 k = Int32.ofNat 15) : mf_313 N (Int32.ofNat k) s = mf_313_253 N (Int32.ofNat k) s := by
  unfold mf_313 mf_313_0
  rw [if_pos (g8 hk), c8 hk, h]
  rfl
theorem r_op16 (hk : k < 8000) (h : s.2.2.1 23 k = Int32.ofNat 16) : mf_313 N (Int32.ofNat k) s = mf_313_116 N s := by
  unfold mf_313 mf_313_0
  rw [if_pos (g8 hk), c8 hk, h]
  rfl
theorem r_op17 (hk : k < 8000) (h : s.2.2.1 23 k = Int32.ofNat 17) : mf_313 N (Int32.ofNat k) s = mf_313_339 N (Int32.ofNat k) s := by
  unfold mf_313 mf_313_0
  rw [if_pos (g8 hk), c8 hk, h]
  rfl
theorem r_op18 (hk : k < 8000) (h : s.2.2.1 23 k = Int32.ofNat 18) : mf_313 N (Int32.ofNat k) s = mf_313_264 N (Int32.ofNat k) s := by
  unfold mf_313 mf_313_0
  rw [if_pos (g8 hk), c8 hk, h]
  rfl
theorem r_op19 (hk : k < 8000) (h : s.2.2.1 23 k = Int32.ofNat 19) : mf_313 N (Int32.ofNat k) s = mf_313_339 N (Int32.ofNat k) s := by
  unfold mf_313 mf_313_0
  rw [if_pos (g8 hk), c8 hk, h]
  rfl
theorem r_op20 (hk : k < 8000) (h : s.2.2.1 23 k = Int32.ofNat 20) : mf_313 N (Int32.ofNat k) s = mf_313_339 N (Int32.ofNat k) s := by
  unfold mf_313 mf_313_0
  rw [if_pos (g8 hk), c8 hk, h]
  rfl
theorem r_op21 (hk : k < 8000) (h : s.2.2.1 23 k = Int32.ofNat 21) : mf_313 N (Int32.ofNat k) s = mf_313_339 N (Int32.ofNat k) s := by
  unfold mf_313 mf_313_0
  rw [if_pos (g8 hk), c8 hk, h]
  rfl
theorem r_op22 (hk : k < 8000) (h : s.2.2.1 23 k = Int32.ofNat 22) : mf_313 N (Int32.ofNat k) s = mf_313_270 N s := by
  unfold mf_313 mf_313_0
  rw [if_pos (g8 hk), c8 hk, h]
  rfl
theorem r_op23 (hk : k < 8000) (h : s.2.2.1 23 k = Int32.ofNat 23) : mf_313 N (Int32.ofNat k) s = mf_313_281 N (Int32.ofNat k) s := by
  unfold mf_313 mf_313_0
  rw [if_pos (g8 hk), c8 hk, h]
  rfl
theorem r_op24 (hk : k < 8000) (h : s.2.2.1 23 k = Int32.ofNat 24) : mf_313 N (Int32.ofNat k) s = mf_313_318 N (Int32.ofNat k) s := by
  unfold mf_313 mf_313_0
  rw [if_pos (g8 hk), c8 hk, h]
  rfl
theorem r_wk4 (hk : k < 8000) (h : s.2.2.1 23 k = Int32.ofNat 4) : mf_316 N (Int32.ofNat k) s = mf_316_44 N (Int32.ofNat k) s := by
  unfold mf_316 mf_316_0
  rw [if_pos (g8 hk), c8 hk, h]
  rfl
theorem r_wk5 (hk : k < 8000) (h : s.2.2.1 23 k = Int32.ofNat 5) : mf_316 N (Int32.ofNat k) s = mf_316_55 N (Int32.ofNat k) s := by
  unfold mf_316 mf_316_0
  rw [if_pos (g8 hk), c8 hk, h]
  rfl
theorem r_wk6 (hk : k < 8000) (h : s.2.2.1 23 k = Int32.ofNat 6) : mf_316 N (Int32.ofNat k) s = mf_316_66 N (Int32.ofNat k) s := by
  unfold mf_316 mf_316_0
  rw [if_pos (g8 hk), c8 hk, h]
  rfl
theorem r_wk7 (hk : k < 8000) (h : s.2.2.1 23 k = Int32.ofNat 7) : mf_316 N (Int32.ofNat k) s = mf_316_82 N s := by
  unfold mf_316 mf_316_0
  rw [if_pos (g8 hk), c8 hk, h]
  rfl
theorem r_wk8 (hk : k < 8000) (h : s.2.2.1 23 k = Int32.ofNat 8) : mf_316 N (Int32.ofNat k) s = mf_316_87 N (Int32.ofNat k) s := by
  unfold mf_316 mf_316_0
  rw [if_pos (g8 hk), c8 hk, h]
  rfl
theorem r_wk9 (hk : k < 8000) (h : s.2.2.1 23 k = Int32.ofNat 9) : mf_316 N (Int32.ofNat k) s = mf_316_109 N (Int32.ofNat k) s := by
  unfold mf_316 mf_316_0
  rw [if_pos (g8 hk), c8 hk, h]
  rfl
theorem r_wk10 (hk : k < 8000) (h : s.2.2.1 23 k = Int32.ofNat 10) : mf_316 N (Int32.ofNat k) s = mf_316_130 N (Int32.ofNat k) s := by
  unfold mf_316 mf_316_0
  rw [if_pos (g8 hk), c8 hk, h]
  rfl
theorem c_mv0 : cf_142 N X (Int32.ofNat 0) g q t = cf_142_131 N X g t := by
  unfold cf_142 cf_142_0
  rfl
theorem c_mv1 : cf_142 N X (Int32.ofNat 1) g q t = cf_142_143 N X g q t := by
  unfold cf_142 cf_142_0
  rfl
theorem c_mv2 : cf_142 N X (Int32.ofNat 2) g q t = cf_142_152 N X g t := by
  unfold cf_142 cf_142_0
  rfl
theorem c_mv3 : cf_142 N X (Int32.ofNat 3) g q t = cf_142_160 N X  t := by
  unfold cf_142 cf_142_0
  rfl
theorem c_mv4 : cf_142 N X (Int32.ofNat 4) g q t = cf_142_168 N X g t := by
  unfold cf_142 cf_142_0
  rfl
theorem c_mv5 : cf_142 N X (Int32.ofNat 5) g q t = cf_142_176 N X g q t := by
  unfold cf_142 cf_142_0
  rfl
theorem c_mv6 : cf_142 N X (Int32.ofNat 6) g q t = cf_142_185 N X q t := by
  unfold cf_142 cf_142_0
  rfl
theorem c_mv7 : cf_142 N X (Int32.ofNat 7) g q t = cf_142_201 N X  t := by
  unfold cf_142 cf_142_0
  rfl
theorem c_mv8 : cf_142 N X (Int32.ofNat 8) g q t = cf_142_228 N X  t := by
  unfold cf_142 cf_142_0
  rfl
theorem c_mv9 : cf_142 N X (Int32.ofNat 9) g q t = cf_142_235 N X q t := by
  unfold cf_142 cf_142_0
  rfl
theorem c_mv10 : cf_142 N X (Int32.ofNat 10) g q t = cf_142_243 N X g t := by
  unfold cf_142 cf_142_0
  rfl
theorem c_mv11 : cf_142 N X (Int32.ofNat 11) g q t = cf_142_251 N X g t := by
  unfold cf_142 cf_142_0
  rfl
theorem c_mv12 : cf_142 N X (Int32.ofNat 12) g q t = cf_142_273 N X q t := by
  unfold cf_142 cf_142_0
  rfl
theorem c_mv26 : cf_142 N X (Int32.ofNat 26) g q t = cf_142_128 N X  t := by
  unfold cf_142 cf_142_0
  rfl
theorem c_mv27 : cf_142 N X (Int32.ofNat 27) g q t = cf_142_193 N X g t := by
  unfold cf_142 cf_142_0
  rfl
theorem c_mv28 : cf_142 N X (Int32.ofNat 28) g q t = cf_142_281 N X g q t := by
  unfold cf_142 cf_142_0
  rfl
theorem c_wk13 : cf_143_19 N X (Int32.ofNat 13) g q v v' t = cf_143_265 N X g q t := by
  unfold cf_143_19
  rfl
theorem c_wk14 : cf_143_19 N X (Int32.ofNat 14) g q v v' t = cf_143_283 N X g t := by
  unfold cf_143_19
  rfl
theorem c_wk15 : cf_143_19 N X (Int32.ofNat 15) g q v v' t = cf_143_274 N X g q t := by
  unfold cf_143_19
  rfl
theorem c_wk16 : cf_143_19 N X (Int32.ofNat 16) g q v v' t = cf_143_291 N X g t := by
  unfold cf_143_19
  rfl
theorem c_wk17 : cf_143_19 N X (Int32.ofNat 17) g q v v' t = cf_143_223 N X q v v' t := by
  unfold cf_143_19
  rfl
theorem c_wk18 : cf_143_19 N X (Int32.ofNat 18) g q v v' t = cf_143_248 N X g q t := by
  unfold cf_143_19
  rfl
theorem c_wk19 : cf_143_19 N X (Int32.ofNat 19) g q v v' t = cf_143_88 N X g q v v' t := by
  unfold cf_143_19
  rfl
theorem c_wk20 : cf_143_19 N X (Int32.ofNat 20) g q v v' t = cf_143_177 N X g q t := by
  unfold cf_143_19
  rfl
theorem c_wk21 : cf_143_19 N X (Int32.ofNat 21) g q v v' t = cf_143_109 N X q v v' t := by
  unfold cf_143_19
  rfl
theorem c_wk22 : cf_143_19 N X (Int32.ofNat 22) g q v v' t = cf_143_129 N X g q v t := by
  unfold cf_143_19
  rfl
theorem c_wk23 : cf_143_19 N X (Int32.ofNat 23) g q v v' t = cf_143_152 N X g q v v' t := by
  unfold cf_143_19
  rfl
theorem c_wk24 : cf_143_19 N X (Int32.ofNat 24) g q v v' t = cf_143_200 N X g q t := by
  unfold cf_143_19
  rfl
theorem c_wk25 : cf_143_19 N X (Int32.ofNat 25) g q v v' t = cf_143_257 N X q t := by
  unfold cf_143_19
  rfl
end ORD
end
-- ### 98e.pure.lean.txt
section
/-! ===== PURE: run (82): the class's side of the picture ===== -/
/-- what a run may change -/
abbrev eR : Nat → Nat → Prop := fun k f => k = 42 ∨ k = 45 ∨ (k = 48 ∧ ¬ f = 0) ∨ k = 49 ∨ k = 58
abbrev aR : Nat → Prop := fun k => 43 ≤ k ∧ k ≤ 60
/-- all but stacks and heap -/
def CB (t0 t : cS) (p : Nat) (code : List Ins) (Fs : List Fn) (fu : Nat) (T : Ty) (out : List Int32) : Prop := cEv t p code Fs ∧ cTy t fu T ∧ (kI t 48 6 = Int32.ofNat 0 ∧ kI t 48 7 = -Int32.ofNat 1 ∧ kI t 48 8 = Int32.ofNat 0) ∧ cOut t out ∧ kI t 49 18 = Int32.ofNat 1 ∧ gf eR aR t0 t
section CBK
variable {N : Nat} {X : Nat → Option zz_C} {t0 t t' : cS} {u u' w p fu m : Nat} {code : List Ins} {Fs : List Fn} {T : Ty} {out : List Int32} {F F' : List Fm} {sh S0 : Nat → Option Nod} {E : Nat → Nat → Prop} {A : Nat → Prop} {a b : Fm}
theorem cEv.keep (h : cEv t p code Fs) (g : gf E A t t') (h1 : ∀ f, ¬ E 12 f ∧ ¬ E 21 f) (h2 : ∀ k, 13 ≤ k → k ≤ 29 → ¬ A k) : cEv t' p code Fs := by
  obtain ⟨a1, a2, ⟨b1, b2, b3, b4, b5, b6, b7⟩, ⟨c1, c2, c3, c4, c5, c6, c7, c8, c9⟩⟩ := h
  obtain ⟨g1, g2, g3, g4, -⟩ := g
  have eI : ∀ f, kI t' p f = kI t p f := fun f => g1 p f (by rcases a2 with z | z <;> rw [z]; exact (h1 f).1; exact (h1 f).2)
  have eA : ∀ d, 1 ≤ d → d ≤ 8 → kA t' (p + d) = kA t (p + d) ∧ kB t' (p + d) = kB t (p + d) := fun d d1 d2 => by
    have := g4 (p + d) (h2 (p + d) (by omega) (by omega)) (by omega)
    exact ⟨this.1, this.2.1⟩
  have r1 := eA 1 (by omega) (by omega)
  have r2 := eA 2 (by omega) (by omega)
  have r3 := eA 3 (by omega) (by omega)
  have r4 := eA 4 (by omega) (by omega)
  have r5 := eA 5 (by omega) (by omega)
  have r6 := eA 6 (by omega) (by omega)
  have r7 := eA 7 (by omega) (by omega)
  have r8 := eA 8 (by omega) (by omega)
  unfold cEv cPg cFt
  rw [g3, eI 3, eI 4, r1.1, r2.1, r3.1, r4.2, r5.1, r6.1, r7.1, r8.1]
  exact ⟨a1, a2, ⟨b1, b2, b3, b4, b5, b6, b7⟩, ⟨c1, c2, c3, c4, c5, c6, c7, c8, c9⟩⟩
theorem cOut.keep2 (h : cOut t out) (g : gf E A t t') (h1 : ¬ E 45 1) (h2 : ¬ A 46) (h3 : ¬ A 47) : cOut t' out := by
  obtain ⟨a1, a2, a3, a4, a5, a6, a7⟩ := h
  have e1 := (g.2.2.2.1 46 h2 (by decide)).1
  have e2 := (g.2.2.2.1 47 h3 (by decide)).1
  have hr : rmK t' := by
    obtain ⟨r1, r2⟩ := a7
    refine ⟨?_, by rw [e1]; exact r2⟩
    have := g.2.2.2.2.2.2.2.1
    have := g.2.2.2.2.2.2.1
    omega
  unfold cOut
  rw [g.1 45 1 h1, e1, e2]
  exact ⟨a1, a2, a3, a4, a5, a6, hr⟩
theorem CB.keep (h : CB t0 t p code Fs fu T out) (g : gf E A t t') (h1 : ∀ k f, E k f → (k = 42 ∨ k = 58 ∨ (k = 49 ∧ ¬ f = 18))) (h2 : ∀ k, A k → 43 ≤ k ∧ k ≤ 60 ∧ ¬ k = 46 ∧ ¬ k = 47) : CB t0 t' p code Fs fu T out := by
  obtain ⟨a1, ⟨b1, b2, b3, b4, b5⟩, ⟨c1, c2, c3⟩, a4, a5, a6⟩ := h
  have n48 : ∀ f, ¬ E 48 f := fun f q => by have := h1 48 f q; omega
  refine ⟨a1.keep g (fun f => ⟨fun q => by have := h1 12 f q; omega, fun q => by have := h1 21 f q; omega⟩) (fun k k1 k2 q => by have := h2 k q; omega), ?_, ?_, a4.keep2 g (fun q => by have := h1 45 1 q; omega) (fun q => by have := h2 46 q; omega) (fun q => by have := h2 47 q; omega), ?_, ?_⟩
  · unfold cTy
    rw [g.1 48 1 (n48 1), g.1 48 2 (n48 2), g.1 48 3 (n48 3), g.1 48 4 (n48 4), g.1 48 5 (n48 5)]
    exact ⟨b1, b2, b3, b4, b5⟩
  · rw [g.1 48 6 (n48 6), g.1 48 7 (n48 7), g.1 48 8 (n48 8)]
    exact ⟨c1, c2, c3⟩
  · rw [g.1 49 18 (fun q => by have := h1 49 18 q; omega)]
    exact a5
  · exact a6.tr2 (g.mono2 (fun k f q => by have := h1 k f q; show k = 42 ∨ k = 45 ∨ (k = 48 ∧ ¬ f = 0) ∨ k = 49 ∨ k = 58; omega) (fun k q => by have := h2 k q; show 43 ≤ k ∧ k ≤ 60; omega))
theorem CB.I {f : Nat} {z : Int32} (h : CB t0 t p code Fs fu T out) (hf : ¬ f = 18) : CB t0 (jI t 49 f z) p code Fs fu T out := h.keep gf_I (fun k q r => Or.inr (Or.inr ⟨r.1, fun e => hf (r.2.symm.trans e)⟩)) (fun k q => q.elim)
theorem CB.P (h : CB t0 t p code Fs fu T out) (g : gf e8 a52 t t') : CB t0 t' p code Fs fu T out := h.keep g (fun k f r => Or.inr (Or.inr ⟨r.1, by have := r.2; omega⟩)) (fun k (q : k = 52) => by omega)
theorem CB.W (h : CB t0 t p code Fs fu T out) (g : hfw t t') : CB t0 t' p code Fs fu T out := h.keep g.gf (fun k f r => by omega) (fun k q => by omega)
/-- one step more -/
theorem CB.st (h : CB t0 t p code Fs fu T out) : CB t0 (jI t 48 2 (Int32.ofNat (T.1 + 1))) p code Fs fu (T.1 + 1, T.2) out := by
  obtain ⟨a1, ⟨b1, b2, b3, b4, b5⟩, ⟨c1, c2, c3⟩, a4, a5, a6⟩ := h
  have g : gf (fun k f => k = 48 ∧ f = 2) (fun _ => False) t (jI t 48 2 (Int32.ofNat (T.1 + 1))) := gf_I
  exact ⟨a1.keep g (fun f => ⟨fun q => by omega, fun q => by omega⟩) (fun k k1 k2 q => q), ⟨b1, rfl, b3, b4, b5⟩, ⟨c1, c2, c3⟩, a4.keep2 g (fun q => by omega) (fun q => q) (fun q => q), a5, a6.tr2 (g.mono2 (fun k f q => by show k = 42 ∨ k = 45 ∨ (k = 48 ∧ ¬ f = 0) ∨ k = 49 ∨ k = 58; omega) (fun k q => q.elim))⟩
theorem cFr.keep (h1 : kA t' 53 = kA t 53) (h2 : kA t' 54 = kA t 54) : ∀ {F : List Fm}, cFr t code F → cFr t' code F
  | [], _ => trivial
  | _ :: F, h => by
    refine ⟨?_, ?_, cFr.keep h1 h2 h.2.2⟩
    · rw [h1]; exact h.1
    · rw [h2]; exact h.2.1
/-- the class's part, with another stack: the tries as they were -/
theorem CM0.stk (h : CM0 t u code (a :: F) sh S0) (g : gf E A t t') (h1 : ∀ f, E 49 f → ¬ f = 11 ∧ ¬ f = 15) (h2 : ∀ k, A k → k = 52) (hs : cSk t' u (cStk (b :: F))) (ht : tStk (b :: F) = tStk (a :: F)) : CM0 t' u code (b :: F) sh S0 := by
  obtain ⟨a1, a2, a3, a4, a5, a6, a7, a8⟩ := h
  have e : ∀ k, ¬ k = 52 → ¬ k = 111 → kA t' k = kA t k ∧ kB t' k = kB t k := fun k k1 k2 => by
    have := g.2.2.2.1 k (fun q => k1 (h2 k q)) k2
    exact ⟨this.1, this.2.1⟩
  have n11 : ¬ E 49 11 := fun q => (h1 11 q).1 rfl
  have n15 : ¬ E 49 15 := fun q => (h1 15 q).2 rfl
  unfold CM0 cel
  rw [ht, (e 55 (by omega) (by omega)).1, (e 56 (by omega) (by omega)).1, (e 57 (by omega) (by omega)).1, (e 53 (by omega) (by omega)).1, (e 54 (by omega) (by omega)).1, (e 50 (by omega) (by omega)).2, (e 51 (by omega) (by omega)).1, (e 60 (by omega) (by omega)).1, (e 43 (by omega) (by omega)).2, g.1 49 11 n11, g.1 49 15 n15]
  exact ⟨hs, cFr.keep (e 53 (by omega) (by omega)).1 (e 54 (by omega) (by omega)).1 (F := a :: F) a2, a3, a4, a5, a6, a7, a8⟩
/-- after something was done upon the heap -/
theorem CM0.hp (h : CM0 t u code F sh S0) (g : hfw t t') (hu : u ≤ u') (hc : ∀ y, y < u → cel t' y = cel t y) : CM0 t' u' code F sh S0 := by
  obtain ⟨a1, a2, a3, a4, a5, a6, a7, a8⟩ := h
  have e : ∀ k, ¬ k = 43 → ¬ k = 44 → ¬ k = 60 → ¬ k = 111 → kA t' k = kA t k ∧ kB t' k = kB t k := fun k k1 k2 k3 k4 => by
    have := g.2.2.2.1 k k1 k2 k4
    exact ⟨this.1 k3, this.2.1⟩
  have e60 := g.2.2.2.2.2.2.2.2.2
  refine ⟨?_, cFr.keep (e 53 (by omega) (by omega) (by omega) (by omega)).1 (e 54 (by omega) (by omega) (by omega) (by omega)).1 a2, ?_, ?_, ?_, ?_, ?_, ?_⟩
  · unfold cSk
    rw [(e 52 (by omega) (by omega) (by omega) (by omega)).2]
    exact ⟨a1.1.mono (fun _ _ _ z => cC.mono hc hu z) (fun _ _ => rfl), a1.2⟩
  · rw [(e 55 (by omega) (by omega) (by omega) (by omega)).1, (e 56 (by omega) (by omega) (by omega) (by omega)).1, (e 57 (by omega) (by omega) (by omega) (by omega)).1]
    exact a3
  · rw [(e 53 (by omega) (by omega) (by omega) (by omega)).1, (e 54 (by omega) (by omega) (by omega) (by omega)).1, (e 50 (by omega) (by omega) (by omega) (by omega)).2, (e 51 (by omega) (by omega) (by omega) (by omega)).1, e60]
    exact a4
  · rw [(e 55 (by omega) (by omega) (by omega) (by omega)).1, (e 56 (by omega) (by omega) (by omega) (by omega)).1, (e 57 (by omega) (by omega) (by omega) (by omega)).1]
    exact a5
  · rw [(e 50 (by omega) (by omega) (by omega) (by omega)).2, (e 51 (by omega) (by omega) (by omega) (by omega)).1]
    exact fun i hi => ⟨cC.mono hc hu (a6 i hi).1, (a6 i hi).2⟩
  · rw [g.1 49 11 (by omega) (by omega)]; exact a7
  · rw [g.1 49 15 (by omega) (by omega)]; exact a8
end CBK
end
-- ### 98f.pure.lean.txt
section
/-! ===== PURE: run (83): the reference's side of the picture ===== -/
abbrev iRn : Nat → Prop := fun q => q = 48 ∨ q = 51 ∨ (55 ≤ q ∧ q ≤ 57) ∨ (60 ≤ q ∧ q ≤ 70 ∧ ¬ q = 68) ∨ q = 73 ∨ q = 79 ∨ q = 87
abbrev aRn : Nat → Prop := fun q => q = 47 ∨ (49 ≤ q ∧ q ≤ 54) ∨ q = 58 ∨ q = 59 ∨ q = 71 ∨ q = 72 ∨ (74 ≤ q ∧ q ≤ 78) ∨ (80 ≤ q ∧ q ≤ 86)
/-- what a run may change, before its end -/
def fRn (s s' : mS) : Prop := mfr iRn (fun q => q = 89) aRn (fun _ => False) s s' ∧ ∀ y, y < 154240 → s'.2.2.1 47 y = s.2.2.1 47 y
def RB (s0 s : mS) (h : Nat) (code : List Ins) (Fs : List Fn) (fu : Nat) (T : Ty) (out : List Int32) : Prop := rEv s h code Fs ∧ rTy s fu T ∧ (s.1 66 = Int32.ofNat 0 ∧ s.1 67 = -Int32.ofNat 1) ∧ rOut s out ∧ fRn s0 s
section RBK
variable {N : Nat} {s0 s s' : mS} {f f' h fu n : Nat} {code : List Ins} {Fs : List Fn} {T : Ty} {out : List Int32} {F F' : List Fm} {sh sh' : Nat → Option Nod} {a b : Fm} {o : Option Nod} {k v : Int32} {g g' : Nat → Int32}
theorem fRn.tr {s1 : mS} (a : fRn s s') (b : fRn s' s1) : fRn s s1 := ⟨mfr.tr a.1 b.1, fun y hy => (b.2 y hy).trans (a.2 y hy)⟩
theorem rvo.up (H : rvo g f k v o) (hf : f ≤ f') (hh : ∀ y, y < f → g' y = g y) : rvo g' f' k v o := by
  cases o with
  | none => exact H
  | some x => exact rvl.up H hf hh
theorem wayP.up {v : Int32 × Int32 × Int32 × Int32 × Int32 × Int32} {x : It × Nat × Nat} (H : wayP g f h code v x) (hf : f ≤ f') (hh : ∀ y, y < f → g' y = g y) : wayP g' f' h code v x := by
  obtain ⟨h1, h2, h3⟩ := H
  have up : ∀ {a : Nat} {y : Nod}, LayN g (Rf f) a y → LayN g' (Rf f') a y := fun {a y} q => LayN.congr (fun _ z => ⟨Nat.lt_of_lt_of_le z.1 hf, z.2⟩) (fun y z => hh y z.1) q
  refine ⟨fun q => ?_, h2, fun q => ?_⟩
  · obtain ⟨a1, a2, a3⟩ := h1 q
    refine ⟨a1, a2, fun y hy => ⟨(a3 y hy).1, fun z => ?_⟩⟩
    obtain ⟨b, b1, b2, b3⟩ := (a3 y hy).2 z
    exact ⟨b, b1, up b2, b3⟩
  · obtain ⟨a1, a2, a3, a4⟩ := h3 q
    refine ⟨a1, a2, a3, fun rs y hy => ?_⟩
    obtain ⟨b, b1, b2, b3⟩ := a4 rs y hy
    exact ⟨b, b1, up b2, b3⟩
/-- the calls' tables -/
theorem rFr.up (h74 : ∀ q, 74 ≤ q → q ≤ 78 → s'.2.2.1 q = s.2.2.1 q) (hf : f ≤ f') (hh : ∀ y, y < f → s'.2.2.1 47 y = s.2.2.1 47 y) : ∀ {F : List Fm}, rFr s f h code F → rFr s' f' h code F
  | [], _ => trivial
  | a :: F, H => by
    obtain ⟨h1, h2, h3, h4, h5⟩ := H
    refine ⟨?_, ?_, ?_, fun i hi => ?_, rFr.up h74 hf hh h5⟩
    · rw [h74 74 (by omega) (by omega)]; exact h1
    · rw [h74 75 (by omega) (by omega)]; exact h2
    · rw [h74 76 (by omega) (by omega)]; exact h3
    · rw [h74 77 (by omega) (by omega), h74 78 (by omega) (by omega)]
      exact (h4 i hi).up hf hh
/-- the innermost call's variables and place are another's: its tables serve -/
theorem rFr.hd (hv : b.2.2.1 = a.2.2.1) (H : rFr s f h code (a :: F)) : rFr s f h code (b :: F) := by
  obtain ⟨h1, h2, h3, h4, h5⟩ := H
  exact ⟨h1, h2, h3, fun i hi => by rw [hv]; exact h4 i hi, h5⟩
/-- the reference's part, with another stack: its ways as they were -/
theorem RM0.mv (H : RM0 s f h code (a :: F) sh) (hA : ∀ q, q = 71 ∨ q = 72 ∨ (74 ≤ q ∧ q ≤ 78) ∨ (80 ≤ q ∧ q ≤ 85) → s'.2.2.1 q = s.2.2.1 q) (h73 : s'.1 73 = s.1 73) (h79 : s'.1 79 = s.1 79) (hf : f ≤ f') (hh : ∀ y, y < f → s'.2.2.1 47 y = s.2.2.1 47 y) (h48 : s'.1 48 = Int32.ofNat f') (hs : stk (fun v x => rvl (s'.2.2.1 47) f' v.1 v.2 x) (fun i => (s'.2.2.1 49 i, s'.2.2.1 50 i)) (rStk (b :: F))) (hv : b.2.2.1 = a.2.2.1) (hw : wStk (b :: F) = wStk (a :: F)) : RM0 s' f' h code (b :: F) sh := by
  obtain ⟨a1, a2, a3, a4, a5, a6, a7, a8⟩ := H
  refine ⟨hs, rFr.up (fun q q1 q2 => hA q (by omega)) hf hh (rFr.hd hv a2), ?_, fun i hi => ?_, LayN.congr (fun _ z => ⟨Nat.lt_of_lt_of_le z.1 hf, z.2⟩) (fun y z => hh y z.1) a5, ?_, ?_, h48⟩
  · rw [hw, hA 80 (by omega), hA 81 (by omega), hA 82 (by omega), hA 83 (by omega), hA 84 (by omega), hA 85 (by omega)]
    exact a3.mono (fun _ _ _ z => z.up hf hh) (fun _ _ => rfl)
  · rw [hA 71 (by omega), hA 72 (by omega)]
    exact (a4 i hi).up hf hh
  · rw [h73]; exact a6
  · rw [h79, hw]; exact a7
theorem rEv.keep (H : rEv s h code Fs) (hA : ∀ q, 17 ≤ q → q ≤ 27 → s'.2.2.1 q = s.2.2.1 q) : rEv s' h code Fs := by
  obtain ⟨a1, a2, a3⟩ := H
  unfold rEv rPg rFp
  rw [hA 23 (by omega) (by omega), hA 24 (by omega) (by omega), hA 25 (by omega) (by omega), hA 26 (by omega) (by omega), hA 27 (by omega) (by omega), hA 20 (by omega) (by omega), hA 18 (by omega) (by omega), hA 19 (by omega) (by omega), hA 17 (by omega) (by omega)]
  exact ⟨a1, a2, a3⟩
theorem RB.keep (H : RB s0 s h code Fs fu T out) (g : fRn s s') (hI : ∀ q, (60 ≤ q ∧ q ≤ 64) ∨ q = 66 ∨ q = 67 ∨ q = 87 → s'.1 q = s.1 q) (h86 : s'.2.2.1 86 = s.2.2.1 86) : RB s0 s' h code Fs fu T out := by
  obtain ⟨a1, a2, a3, a4, a5⟩ := H
  refine ⟨a1.keep (fun q q1 q2 => g.1.2.2.1 q (by unfold aRn; omega)), ?_, ?_, a4.ch (hI 87 (by omega)) h86, a5.tr g⟩
  · unfold rTy
    rw [hI 61 (by omega), hI 60 (by omega), hI 62 (by omega), hI 63 (by omega), hI 64 (by omega)]
    exact a2
  · rw [hI 66 (by omega), hI 67 (by omega)]
    exact a3
/-- one step more -/
theorem RB.st (H : RB s0 s h code Fs fu T out) : RB s0 (mI s 60 (Int32.ofNat (T.1 + 1))) h code Fs fu (T.1 + 1, T.2) out := by
  obtain ⟨a1, ⟨b1, b2, b3, b4, b5⟩, a3, a4, a5⟩ := H
  refine ⟨a1.keep (fun _ _ _ => rfl), ⟨b1, rfl, b3, b4, b5⟩, a3, a4.ch rfl rfl, a5.tr ⟨⟨fun q r => if_neg (by unfold iRn at r; omega), fun _ _ => rfl, fun _ _ => rfl, fun _ _ => rfl⟩, fun _ _ => rfl⟩⟩
theorem fRn.I {q : Nat} {z : Int32} (hq : iRn q) : fRn s (mI s q z) := ⟨⟨fun k r => if_neg (fun (e : k = q) => r (by rw [e]; exact hq)), fun _ _ => rfl, fun _ _ => rfl, fun _ _ => rfl⟩, fun _ _ => rfl⟩
theorem RB.I {q : Nat} {z : Int32} (H : RB s0 s h code Fs fu T out) (hq : q = 48 ∨ q = 51 ∨ q = 65 ∨ (69 ≤ q ∧ q ≤ 70) ∨ q = 73 ∨ q = 79) : RB s0 (mI s q z) h code Fs fu T out := H.keep (fRn.I (by unfold iRn; omega)) (fun k r => if_neg (by omega)) rfl
end RBK
end
-- ### 98g.pure.lean.txt
section
/-! ===== PURE: run (84): the class's acts upon the picture ===== -/
/-- the picture without the place -/
def CX (t0 t : cS) (p : Nat) (code : List Ins) (Fs : List Fn) (fu : Nat) (S0 : Nat → Option Nod) (u w : Nat) (F : List Fm) (sh : Nat → Option Nod) (T : Ty) (out : List Int32) : Prop := CB t0 t p code Fs fu T out ∧ CM0 t u code F sh S0 ∧ cHp t u w ∧ kI t 49 8 = Int32.ofNat (cStk F).length
/-- what an operation gave -/
def cAn (t' : cS) (u u' : Nat) (v : Int64) : Ans → Prop
  | .inl k => v = rf (Int32.ofNat k) ∧ u' ≤ u + 2100
  | .inr x => cN (cel t') u' v x ∧ u' ≤ u + 20 * ctV (vw x) ∧ wfN x ∧ x.1 ≤ 4
section CXP
variable {N : Nat} {X : Nat → Option zz_C} {t0 t t' : cS} {u u' w w' p fu m m' d d' k : Nat} {code : List Ins} {Fs : List Fn} {T : Ty} {out : List Int32} {F : List Fm} {sh S0 : Nat → Option Nod} {vs : List (Option Nod)} {I J : List It} {it : It} {v : Int64} {o : Option Nod} {z : Int32} {a b : Fm} {l : List (Option Nod)}
theorem cFr.ji {x y : Nat} (h : cFr t code F) : cFr (jI t x y z) code F := cFr.keep (t := t) (t' := jI t x y z) rfl rfl h
/-- another place serves -/
theorem CX.at (h : CX t0 t p code Fs fu S0 u w ((m, d, vs, I) :: F) sh T out) : CX t0 t p code Fs fu S0 u w ((m', d', vs, I) :: F) sh T out := h
theorem CX.pc {f : Nat} (h : CX t0 t p code Fs fu S0 u w F sh T out) (hf : f = 17 ∨ f = 16) : CX t0 (jI t 49 f z) p code Fs fu S0 u w F sh T out := by
  obtain ⟨h1, h2, h3, h4⟩ := h
  refine ⟨h1.I (by omega), ?_, h3.I (by decide), ?_⟩
  · obtain ⟨a1, a2, a3, a4, a5, a6, a7, a8⟩ := h2
    refine ⟨a1, cFr.ji a2, a3, a4, a5, a6, ?_, ?_⟩
    · show (if 49 = 49 ∧ 11 = f then z else kI t 49 11) = _
      rw [if_neg (by omega)]
      exact a7
    · show (if 49 = 49 ∧ 15 = f then z else kI t 49 15) = _
      rw [if_neg (by omega)]
      exact a8
  · show (if 49 = 49 ∧ 8 = f then z else kI t 49 8) = _
    rw [if_neg (by omega)]
    exact h4
theorem tIt_cons {b d : Nat} (h : ¬ it.1 = 3) : tIt b d (it :: I) = tIt b d I := if_neg h
theorem tStk_cons (h : ¬ it.1 = 3) : tStk ((m, d, vs, it :: I) :: F) = tStk ((m', d', vs, I) :: F) := by
  show tIt _ _ (it :: I) ++ _ = _
  rw [tIt_cons h]
  rfl
theorem cIt_cons : cIt (it :: I) = iC it ++ cIt I := List.flatMap_cons
theorem rIt_cons : rIt (it :: I) = iR it ++ rIt I := List.flatMap_cons
theorem cStk_cons : cStk ((m, d, vs, it :: I) :: F) = iC it ++ cStk ((m', d', vs, I) :: F) := by
  show cIt (it :: I) ++ _ = _
  rw [cIt_cons, List.append_assoc]
  rfl
theorem rStk_cons : rStk ((m, d, vs, it :: I) :: F) = iR it ++ rStk ((m', d', vs, I) :: F) := by
  show rIt (it :: I) ++ _ = _
  rw [rIt_cons, List.append_assoc]
  rfl
/-- a long is laid on the stack -/
theorem CX.push (h : CX t0 t p code Fs fu S0 u w ((m, d, vs, I) :: F) sh T out) (hl : (cStk ((m, d, vs, I) :: F)).length ≤ 20000) (hv : cC (cel t) u v o) (hk : ¬ it.1 = 3) (hi : iC it = [o]) : ∃ t', cf_165 N X v t = some (t', .inl none) ∧ CX t0 t' p code Fs fu S0 u w ((m', d', vs, it :: I) :: F) sh T out ∧ kI t' 49 17 = kI t 49 17 ∧ cel t' = cel t := by
  obtain ⟨h1, h2, h3, h4⟩ := h
  obtain ⟨t', a1, a2, a3, a4, a5⟩ := c_push (N := N) (X := X) h3 h2.1 h4 hl hv
  have e : cStk ((m', d', vs, it :: I) :: F) = o :: cStk ((m, d, vs, I) :: F) := by
    rw [cStk_cons (m' := m) (d' := d), hi]
    rfl
  refine ⟨t', a1, ⟨h1.P a4, h2.stk a4 (fun f q => by have := q.2; omega) (fun k q => q) (by rw [e]; exact a2) (tStk_cons hk), a5, by rw [e]; exact a3⟩, a4.1 49 17 (by omega), ?_⟩
  have := (a4.2.2.2.1 43 (by decide) (by decide)).2.1
  unfold cel
  rw [this]
theorem CX.lower (h : CX t0 t p code Fs fu S0 u w (a :: F) sh T out) (hc : cStk (a :: F) = l ++ cStk (b :: F)) (ht : tStk (b :: F) = tStk (a :: F)) : CX t0 (jI t 49 8 (Int32.ofNat (cStk (b :: F)).length)) p code Fs fu S0 u w (b :: F) sh T out := by
  obtain ⟨h1, h2, h3, h4⟩ := h
  have g : gf (fun k f => k = 49 ∧ f = 8) (fun _ => False) t (jI t 49 8 (Int32.ofNat (cStk (b :: F)).length)) := gf_I
  refine ⟨h1.I (by omega), h2.stk g (fun f q => by have := q.2; omega) (fun k q => q.elim) ?_ ht, h3.I (by decide), rfl⟩
  have hs := h2.1
  rw [hc] at hs
  exact hs.app
/-- one is taken off -/
theorem CX.pop (h : CX t0 t p code Fs fu S0 u w ((m, d, vs, it :: I) :: F) sh T out) (hl : (cStk ((m, d, vs, it :: I) :: F)).length ≤ 20000) (hk : ¬ it.1 = 3) (hi : iC it = [o]) : ∃ t' v, cf_166 N X t = some (t', .inl (some (.long v))) ∧ cC (cel t) u v o ∧ CX t0 t' p code Fs fu S0 u w ((m', d', vs, I) :: F) sh T out ∧ kI t' 49 17 = kI t 49 17 ∧ cel t' = cel t := by
  have e : cStk ((m, d, vs, it :: I) :: F) = o :: cStk ((m', d', vs, I) :: F) := by
    rw [cStk_cons (m' := m') (d' := d'), hi]
    rfl
  have h4 := h.2.2.2
  have hs := h.2.1.1
  rw [e] at h4 hs hl
  obtain ⟨v, a1, a2, a3⟩ := c_pop (N := N) (X := X) hs h4 (by simp only [List.length_cons] at hl; omega)
  exact ⟨_, v, a1, a2, CX.lower (l := [o]) h (by rw [e]; rfl) (tStk_cons hk).symm, rfl, rfl⟩
theorem CX.peek (h : CX t0 t p code Fs fu S0 u w F sh T out) (h1 : 1 ≤ k) (h2 : k ≤ (cStk F).length) : ∃ v, cf_167 N X (Int32.ofNat k) t = some (t, .inl (some (.long v))) ∧ cC (cel t) u v ((cStk F)[k - 1]'(by omega)) := c_peek h.2.1.1 h.2.2.2 h1 h2
/-- a look at the value on top -/
theorem CX.top1 (h : CX t0 t p code Fs fu S0 u w F sh T out) (e : cStk F = o :: l) : ∃ v, cf_167 N X (Int32.ofNat 1) t = some (t, .inl (some (.long v))) ∧ cC (cel t) u v o := by
  obtain ⟨v, a1, a2⟩ := h.peek (N := N) (X := X) (k := 1) (Nat.le_refl _) (by rw [e]; exact Nat.succ_le_succ (Nat.zero_le _))
  refine ⟨v, a1, ?_⟩
  simp only [e] at a2
  exact a2
theorem CX.top2 {o' : Option Nod} (h : CX t0 t p code Fs fu S0 u w F sh T out) (e : cStk F = o' :: o :: l) : ∃ v, cf_167 N X (Int32.ofNat 2) t = some (t, .inl (some (.long v))) ∧ cC (cel t) u v o := by
  obtain ⟨v, a1, a2⟩ := h.peek (N := N) (X := X) (k := 2) (by omega) (by rw [e]; simp only [List.length_cons]; omega)
  refine ⟨v, a1, ?_⟩
  simp only [e] at a2
  exact a2
/-- the heap was worked upon -/
theorem CX.op {r : Ans} (h : CX t0 t p code Fs fu S0 u w F sh T out) (hF : cF t t' u v r) : ∃ u' w', CX t0 t' p code Fs fu S0 u' w' F sh T out ∧ kI t' 49 17 = kI t 49 17 ∧ u ≤ u' ∧ (∀ y, y < u → cel t' y = cel t y) ∧ cAn t' u u' v r := by
  obtain ⟨h1, h2, h3, h4⟩ := h
  obtain ⟨u', w', b1, b2, b3, b4, b5⟩ := hF
  refine ⟨u', w', ⟨h1.W b2, h2.hp b2 b3 b4, b1, ?_⟩, b2.1 49 17 (by omega) (by omega), b3, b4, by cases r <;> exact b5⟩
  rw [b2.1 49 8 (by omega) (by omega)]
  exact h4
/-- the parts gathered are forgotten -/
theorem CX.forget (h : CX t0 t p code Fs fu S0 u w F sh T out) : cf_121 N X t = some (jI t 42 3 (Int32.ofNat 0), .inl none) ∧ CX t0 (jI t 42 3 (Int32.ofNat 0)) p code Fs fu S0 u 0 F sh T out := by
  obtain ⟨h1, h2, h3, h4⟩ := h
  refine ⟨rfl, h1.keep (gf_I (a := 42) (b := 3)) (fun k f q => Or.inl q.1) (fun k q => q.elim), ?_, ?_, h4⟩
  · obtain ⟨a1, a2, a3, a4, a5, a6, a7, a8⟩ := h2
    exact ⟨a1, cFr.ji a2, a3, a4, a5, a6, a7, a8⟩
  · obtain ⟨a1, a2, a3, a4, a5⟩ := h3
    exact ⟨a1, rfl, a3, Nat.zero_le _, a5⟩
theorem CX.st (h : CX t0 t p code Fs fu S0 u w F sh T out) : CX t0 (jI t 48 2 (Int32.ofNat (T.1 + 1))) p code Fs fu S0 u w F sh (T.1 + 1, T.2) out := by
  obtain ⟨h1, h2, h3, h4⟩ := h
  obtain ⟨a1, a2, a3, a4, a5, a6, a7, a8⟩ := h2
  exact ⟨h1.st, ⟨a1, cFr.ji a2, a3, a4, a5, a6, a7, a8⟩, h3.I (by decide), h4⟩
end CXP
end
-- ### 98h.pure.lean.txt
section
/-! ===== PURE: run (85): the picture's lists ===== -/
/-- to the innermost try -/
def unI : List It → Option (Nat × List It)
  | [] => none
  | a :: l => if a.1 = 3 then some (a.2.2, l) else unI l
def unF : List Fm → Option (Nat × List Fm)
  | [] => none
  | a :: F => match unI a.2.2.2 with
    | some (m, l) => some (m, (a.1, a.2.1, a.2.2.1, l) :: F)
    | none => unF F
section LST
variable {t : cS} {s : mS} {code : List Ins} {Fs : List Fn} {F F' : List Fm} {I J : List It} {b d m z k f h : Nat} {a : Fm} {L : List Nat}
theorem unI_some {l : List It} : ∀ {I : List It}, unI I = some (m, l) → ∃ J x, I = J ++ x :: l ∧ x.1 = 3 ∧ x.2.2 = m ∧ (∀ y ∈ J, ¬ y.1 = 3)
  | [], e => by cases e
  | x :: I, e => by
    unfold unI at e
    by_cases c : x.1 = 3
    · rw [if_pos c] at e
      cases e
      exact ⟨[], x, rfl, c, rfl, fun y hy => by cases hy⟩
    · rw [if_neg c] at e
      obtain ⟨J, y, h1, h2, h3, h4⟩ := unI_some e
      refine ⟨x :: J, y, by rw [h1]; rfl, h2, h3, fun q hq => ?_⟩
      rcases List.mem_cons.mp hq with r | r
      · rw [r]; exact c
      · exact h4 q r
theorem unI_none : ∀ {I : List It}, unI I = none → ∀ y ∈ I, ¬ y.1 = 3
  | [], _, y, hy => by cases hy
  | x :: I, e, y, hy => by
    unfold unI at e
    by_cases c : x.1 = 3
    · rw [if_pos c] at e
      cases e
    · rw [if_neg c] at e
      rcases List.mem_cons.mp hy with r | r
      · rw [r]; exact c
      · exact unI_none e y r
theorem tIt_no : ∀ {I : List It}, (∀ y ∈ I, ¬ y.1 = 3) → tIt b d I = []
  | [], _ => rfl
  | x :: I, h => by
    rw [show tIt b d (x :: I) = tIt b d I from if_neg (h x List.mem_cons_self)]
    exact tIt_no fun y hy => h y (List.mem_cons_of_mem _ hy)
theorem tIt_app : ∀ {J : List It}, (∀ y ∈ J, ¬ y.1 = 3) → tIt b d (J ++ I) = tIt b d I
  | [], _ => rfl
  | x :: J, h => by
    show tIt b d (x :: (J ++ I)) = _
    rw [show tIt b d (x :: (J ++ I)) = tIt b d (J ++ I) from if_neg (h x List.mem_cons_self)]
    exact tIt_app fun y hy => h y (List.mem_cons_of_mem _ hy)
/-- no try is open -/
theorem unF_none : ∀ {F : List Fm}, unF F = none → tStk F = [] ∧ ∀ w ∈ wStk F, ¬ w.1.1 = 3
  | [], _ => ⟨rfl, fun w hw => by cases hw⟩
  | a :: F, e => by
    unfold unF at e
    cases hI : unI a.2.2.2 with
    | some q =>
      rw [hI] at e
      cases e
    | none =>
      rw [hI] at e
      have h1 := unI_none hI
      obtain ⟨h2, h3⟩ := unF_none (F := F) e
      refine ⟨by show tIt _ _ _ ++ tStk F = _; rw [tIt_no h1, h2]; rfl, fun w hw => ?_⟩
      rcases List.mem_append.mp (show w ∈ wIt _ _ _ ++ wStk F from hw) with r | r
      · have key : ∀ {I : List It} {b d : Nat}, w ∈ wIt b d I → w.1 ∈ I := by
          intro I
          induction I with
          | nil => intro b d q; cases q
          | cons x I ih =>
            intro b d q
            unfold wIt at q
            by_cases c : x.1 = 2 ∨ x.1 = 3 ∨ x.1 = 6 ∨ x.1 = 8
            · rw [if_pos c] at q
              rcases List.mem_cons.mp q with r | r
              · rw [r]; exact List.mem_cons_self
              · exact List.mem_cons_of_mem _ (ih r)
            · rw [if_neg c] at q
              exact List.mem_cons_of_mem _ (ih q)
        exact h1 _ (key r)
      · exact h3 w r
theorem wIt_app : ∀ {J : List It}, ∃ W, wIt b d (J ++ I) = W ++ wIt b d I ∧ ((∀ y ∈ J, ¬ y.1 = 3) → ∀ w ∈ W, ¬ w.1.1 = 3)
  | [] => ⟨[], rfl, fun _ w hw => by cases hw⟩
  | x :: J => by
    obtain ⟨W, h1, h2⟩ := wIt_app (J := J)
    by_cases c : x.1 = 2 ∨ x.1 = 3 ∨ x.1 = 6 ∨ x.1 = 8
    · refine ⟨(x, (rIt (J ++ I)).length + b, d) :: W, ?_, fun h w hw => ?_⟩
      · show (if x.1 = 2 ∨ x.1 = 3 ∨ x.1 = 6 ∨ x.1 = 8 then (x, (rIt (J ++ I)).length + b, d) :: wIt b d (J ++ I) else wIt b d (J ++ I)) = _
        rw [if_pos c, h1]
        rfl
      · rcases List.mem_cons.mp hw with r | r
        · rw [r]; exact h x List.mem_cons_self
        · exact h2 (fun y hy => h y (List.mem_cons_of_mem _ hy)) w r
    · refine ⟨W, ?_, fun h w hw => h2 (fun y hy => h y (List.mem_cons_of_mem _ hy)) w hw⟩
      show (if x.1 = 2 ∨ x.1 = 3 ∨ x.1 = 6 ∨ x.1 = 8 then _ else wIt b d (J ++ I)) = _
      rw [if_neg c, h1]
/-- the innermost try, as both sides have it -/
theorem unF_some : ∀ {F : List Fm}, unF F = some (m, F') → ∃ a I G, F' = (a.1, a.2.1, a.2.2.1, I) :: G ∧ (∃ P J x, F = P ++ a :: G ∧ a.2.2.2 = J ++ x :: I ∧ x.1 = 3 ∧ x.2.2 = m) ∧ tStk F = (m, (cStk F').length, F'.length) :: tStk F' ∧ (∃ W x, wStk F = W ++ (x, (rStk F').length, F'.length) :: wStk F' ∧ x.1 = 3 ∧ x.2.2 = m ∧ ∀ w ∈ W, ¬ w.1.1 = 3) ∧ (∃ l, cStk F = l ++ cStk F') ∧ (∃ l, rStk F = l ++ rStk F')
  | [], e => by cases e
  | a :: F, e => by
    unfold unF at e
    cases hI : unI a.2.2.2 with
    | some q =>
      rw [hI] at e
      obtain ⟨m1, l⟩ := q
      have e : some (m1, ((a.1, a.2.1, a.2.2.1, l) : Fm) :: F) = some (m, F') := e
      cases e
      obtain ⟨J, x, h1, h2, h3, h4⟩ := unI_some hI
      refine ⟨a, l, F, rfl, ⟨[], J, x, rfl, h1, h2, h3⟩, ?_, ?_, ⟨cIt J ++ iC x, ?_⟩, ⟨rIt J ++ iR x, ?_⟩⟩
      · show tIt _ _ a.2.2.2 ++ tStk F = _
        rw [h1, tIt_app h4]
        show (if x.1 = 3 then _ else _) ++ _ = _
        rw [if_pos h2, h3]
        show (m, (cIt l).length + (a.2.2.1.length + (cStk F).length), F.length + 1) :: (tIt _ _ l ++ tStk F) = _
        congr 3
        show _ = (cIt l ++ (a.2.2.1.reverse ++ cStk F)).length
        rw [List.length_append, List.length_append, List.length_reverse]
      · obtain ⟨W, g1, g2⟩ := wIt_app (J := J) (I := x :: l) (b := (rStk F).length) (d := F.length + 1)
        refine ⟨W, x, ?_, h2, h3, g2 h4⟩
        show wIt _ _ a.2.2.2 ++ wStk F = _
        rw [h1, g1]
        show W ++ (if x.1 = 2 ∨ x.1 = 3 ∨ x.1 = 6 ∨ x.1 = 8 then _ else _) ++ _ = _
        rw [if_pos (Or.inr (Or.inl h2)), List.append_assoc]
        show W ++ ((x, (rIt l).length + (rStk F).length, F.length + 1) :: (wIt _ _ l ++ wStk F)) = _
        congr 4
        show _ = (rIt l ++ rStk F).length
        rw [List.length_append]
      · show cIt a.2.2.2 ++ _ = _
        rw [h1]
        show (J ++ x :: l).flatMap iC ++ _ = J.flatMap iC ++ iC x ++ (l.flatMap iC ++ _)
        rw [List.flatMap_append, List.flatMap_cons]
        simp only [List.append_assoc]
      · show rIt a.2.2.2 ++ _ = _
        rw [h1]
        show (J ++ x :: l).flatMap iR ++ _ = J.flatMap iR ++ iR x ++ (l.flatMap iR ++ _)
        rw [List.flatMap_append, List.flatMap_cons]
        simp only [List.append_assoc]
    | none =>
      rw [hI] at e
      have h1 := unI_none hI
      obtain ⟨a', I', G, g1, ⟨P, J, x, p1, p2, p3, p4⟩, g2, ⟨W, x', w1, w2, w3, w4⟩, ⟨l, g4⟩, ⟨l', g5⟩⟩ := unF_some (F := F) e
      obtain ⟨W0, q1, q2⟩ := wIt_app (J := a.2.2.2) (I := []) (b := (rStk F).length) (d := F.length + 1)
      refine ⟨a', I', G, g1, ⟨a :: P, J, x, by rw [p1]; rfl, p2, p3, p4⟩, ?_, ⟨W0 ++ W, x', ?_, w2, w3, fun w hw => ?_⟩, ⟨cIt a.2.2.2 ++ (a.2.2.1.reverse ++ l), ?_⟩, ⟨rIt a.2.2.2 ++ l', ?_⟩⟩
      · show tIt _ _ a.2.2.2 ++ tStk F = _
        rw [tIt_no h1, g2]
        rfl
      · rw [List.append_nil] at q1
        show wIt _ _ a.2.2.2 ++ wStk F = _
        rw [q1, w1]
        show W0 ++ [] ++ _ = _
        rw [List.append_nil, List.append_assoc]
      · rcases List.mem_append.mp hw with r | r
        · exact q2 h1 w r
        · exact w4 w r
      · show cIt a.2.2.2 ++ (a.2.2.1.reverse ++ cStk F) = _
        rw [g4]
        simp only [List.append_assoc]
      · show rIt a.2.2.2 ++ rStk F = _
        rw [g5]
        simp only [List.append_assoc]
/-- values on top -/
theorem popV : ∀ {k : Nat} {I : List It} {L : List Nat}, okIs code b z I → pop0 k (kd I) = some L → ∃ (xs : List Nod) (J I' : List It), I = J ++ I' ∧ xs.length = k ∧ rIt J = xs.reverse ∧ cIt J = xs.reverse.map some ∧ (∀ y ∈ J, y.1 = 0) ∧ J.length = k ∧ kd I' = L ∧ okIs code b z I'
  | 0, I, L, ho, h => ⟨[], [], I, rfl, rfl, rfl, rfl, fun y hy => (by cases hy), rfl, Option.some.inj h, ho⟩
  | k + 1, [], L, ho, h => by simp [pop0] at h
  | k + 1, a :: I, L, ho, h => by
    obtain ⟨o1, o2⟩ := ho
    have h : pop0 (k + 1) (a.1 :: kd I) = some L := h
    have a0 : a.1 = 0 := by
      cases e : a.1 with
      | zero => rfl
      | succ q =>
        rw [e] at h
        simp [pop0] at h
    rw [a0] at h
    obtain ⟨xs, J, I', h1, h2, h3, h4, h5, h6, h7, h8⟩ := popV o2 (show pop0 k (kd I) = some L from h)
    obtain ⟨x, hx⟩ := o1.2.1 (Or.inl a0)
    refine ⟨xs ++ [x], a :: J, I', by rw [h1]; rfl, by rw [List.length_append, h2]; rfl, ?_, ?_, ?_, by rw [List.length_cons, h6], h7, h8⟩
    · show iR a ++ rIt J = _
      rw [h3, List.reverse_append]
      unfold iR
      rw [if_pos a0, hx]
      rfl
    · show iC a ++ cIt J = _
      rw [h4, List.reverse_append]
      unfold iC
      rw [if_pos (Or.inl a0), hx]
      rfl
    · intro y hy
      rcases List.mem_cons.mp hy with r | r
      · rw [r]; exact a0
      · exact h5 y r
end LST
end
-- ### 98i.pure.lean.txt
section
/-! ===== PURE: run (86): a new thing is given, or a trouble comes (the class) ===== -/
section GIV
variable {N : Nat} {X : Nat → Option zz_C} {t0 t t' t2 : cS} {u u' w w' p fu m m' d d' k j : Nat} {code : List Ins} {Fs : List Fn} {T : Ty} {out : List Int32} {F F' : List Fm} {sh S0 : Nat → Option Nod} {vs : List (Option Nod)} {I J : List It} {it : It} {v : Int64} {o : Option Nod} {z q r : Int32} {a b : Fm} {l : List (Option Nod)} {x : Nod}
theorem sum4 : ∀ {q : List (List Int32)}, (q.map fun r => 4 + r.length).sum = 4 * q.length + (q.map List.length).sum
  | [] => rfl
  | r :: q => by
    rw [List.map_cons, List.sum_cons, List.map_cons, List.sum_cons, sum4, List.length_cons]
    omega
/-- what a thing costs -/
theorem c_made (hh : cHp t u w) (hx : cN (cel t) u v x) (wx : wfN x) : cf_131 N X v t = some (t, .inl (some (.int (Int32.ofNat (ctV (vw x)))))) := by
  have e1 := c_kn (N := N) (X := X) hx
  have e2 := c_sizeN (N := N) (X := X) hh hx
  have h := cN_iff.mp hx
  have e1 : cf_255 N X v t = some (t, .inl (some (.int (Int32.ofNat (knV (vw x)))))) := e1
  have hz : szN x = szV (vw x) := rfl
  rw [hz] at e2
  obtain ⟨h1, h2, h3, h4, h5, h6, h7, h8, h9⟩ := hh
  generalize vw x = V at *
  obtain z | r | q | ⟨n, l⟩ := V
  · have e1 : cf_255 N X v t = some (t, .inl (some (.int (Int32.ofNat 0)))) := e1
    unfold cf_131 cf_131_0
    rw [e1]
    rfl
  · have e1 : cf_255 N X v t = some (t, .inl (some (.int (Int32.ofNat 1)))) := e1
    have e2 : cf_128 N X v t = some (t, .inl (some (.int (Int32.ofNat r.length)))) := e2
    have E : cf_131 N X v t = cf_131_32 N X v t := by
      unfold cf_131 cf_131_0
      rw [e1]
      rfl
    rw [E]
    show cf_131_32 N X v t = some (t, .inl (some (.int (Int32.ofNat (4 + r.length)))))
    unfold cf_131_32 cf_131_38
    simp (disch := omega) only [ev_S, ev_C, ↓reduceIte, Nat.reduceEqDiff, Nat.reduceLeDiff, Nat.reduceAdd, Nat.reduceMul, Nat.reduceSub, reduceCtorEq, l32_0, l32_1, l32_2, l32_3, l32_4, l32_5, l32_6, l32_7, l32_8, l32_9, l32_10, l32_11, l32_12, l32_13, l32_14, l32_15, l32_16, l32_17, l32_18, l32_19, l32_20, l32_21, l32_22, l32_23, l32_24, l32_25, l32_26, l32_27, l32_28, l32_29, l32_33, l32_40, l32_41, l32_44, l32_45, l32_59, l32_61, l32_91, l32_93, l32_123, l32_125, e2]
  · have e1 : cf_255 N X v t = some (t, .inl (some (.int (Int32.ofNat 2)))) := e1
    have e2 : cf_128 N X v t = some (t, .inl (some (.int (Int32.ofNat q.length)))) := e2
    have E : cf_131 N X v t = cf_131_40 N X v t := by
      unfold cf_131 cf_131_0
      rw [e1]
      rfl
    rw [E]
    show cf_131_40 N X v t = some (t, .inl (some (.int (Int32.ofNat (4 + (q.map fun r => 4 + r.length).sum)))))
    rw [sum4]
    obtain ⟨a, g0, g1, g2, g3, g4⟩ := h
    have g3 : (kB t 43).2 (a + 1) = _ := g3
    have e3 : cf_136 N X v t = some (t, .inl (some (.int (Int32.ofNat (q.map List.length).sum)))) := by
      have n1 : ¬ u ≤ a + 1 := by omega
      rw [g0]
      repeat ((first | unfold cf_136 | unfold cf_136_0 | unfold cf_136_9 | unfold cf_136_17 | unfold cf_136_27 | unfold cf_136_28); try simp (disch := omega) only [ev_S, ev_C, ↓reduceIte, Nat.reduceEqDiff, Nat.reduceLeDiff, Nat.reduceAdd, Nat.reduceMul, Nat.reduceSub, reduceCtorEq, l32_0, l32_1, l32_2, l32_3, l32_4, l32_42, l32_43, tg_low, h1, n1, g3, i64_32])
    generalize (q.map List.length).sum = sq at *
    unfold cf_131_40 cf_131_47 cf_131_54
    simp (disch := omega) only [ev_S, ev_C, ↓reduceIte, Nat.reduceEqDiff, Nat.reduceLeDiff, Nat.reduceAdd, Nat.reduceMul, Nat.reduceSub, reduceCtorEq, l32_0, l32_1, l32_2, l32_3, l32_4, l32_5, l32_6, l32_7, l32_8, l32_9, l32_10, l32_11, l32_12, l32_13, l32_14, l32_15, l32_16, l32_17, l32_18, l32_19, l32_20, l32_21, l32_22, l32_23, l32_24, l32_25, l32_26, l32_27, l32_28, l32_29, l32_33, l32_40, l32_41, l32_44, l32_45, l32_59, l32_61, l32_91, l32_93, l32_123, l32_125, e2, e3]
    rw [show 4 + 4 * q.length + sq = 4 + (4 * q.length + sq) by omega]
  · have e1 : cf_255 N X v t = some (t, .inl (some (.int (Int32.ofNat 3)))) := e1
    have e2 : cf_128 N X v t = some (t, .inl (some (.int (Int32.ofNat l.length)))) := e2
    have E : cf_131 N X v t = cf_131_56 N X v t := by
      unfold cf_131 cf_131_0
      rw [e1]
      rfl
    rw [E]
    show cf_131_56 N X v t = some (t, .inl (some (.int (Int32.ofNat (4 + 2 * l.length)))))
    unfold cf_131_56 cf_131_63
    simp (disch := omega) only [ev_S, ev_C, ↓reduceIte, Nat.reduceEqDiff, Nat.reduceLeDiff, Nat.reduceAdd, Nat.reduceMul, Nat.reduceSub, reduceCtorEq, l32_0, l32_1, l32_2, l32_3, l32_4, l32_5, l32_6, l32_7, l32_8, l32_9, l32_10, l32_11, l32_12, l32_13, l32_14, l32_15, l32_16, l32_17, l32_18, l32_19, l32_20, l32_21, l32_22, l32_23, l32_24, l32_25, l32_26, l32_27, l32_28, l32_29, l32_33, l32_40, l32_41, l32_44, l32_45, l32_59, l32_61, l32_91, l32_93, l32_123, l32_125, e2]
theorem rf_tg0 : ∀ k : Fin 12, rf (Int32.ofNat k.1) = tg 4 (Int32.ofNat k.1) := by decide
theorem rf_tg (hk : k < 12) : rf (Int32.ofNat k) = tg 4 (Int32.ofNat k) := rf_tg0 ⟨k, hk⟩
theorem c_giveT (hk : k < 12) (hr : cf_156 N X (Int32.ofNat k) q (Int32.ofNat 0) t = some (t2, .inl none)) {g : Int32} : cf_144 N X (rf (Int32.ofNat k)) g q t = some (t2, .inl none) := by
  have e1 : cf_255 N X (rf (Int32.ofNat k)) t = some (t, .inl (some (.int (Int32.ofNat 4)))) := by rw [rf_tg hk]; exact c_kindOf (k := 4) (a := Int32.ofNat k)
  have e2 : cf_256 N X (rf (Int32.ofNat k)) t = some (t, .inl (some (.int (Int32.ofNat k)))) := by rw [rf_tg hk]; exact c_lowOf (k := 4) (a := Int32.ofNat k)
  unfold cf_144 cf_144_0 cf_144_4 cf_144_8 cf_144_13 cf_144_19 cf_144_71
  simp (disch := omega) only [ev_S, ev_C, ↓reduceIte, Nat.reduceEqDiff, Nat.reduceLeDiff, Nat.reduceAdd, Nat.reduceMul, Nat.reduceSub, reduceCtorEq, l32_0, l32_1, l32_2, l32_3, l32_4, l32_5, l32_6, l32_7, l32_8, l32_9, l32_10, l32_11, l32_12, l32_13, l32_14, l32_15, l32_16, l32_17, l32_18, l32_19, l32_20, l32_21, l32_22, l32_23, l32_24, l32_25, l32_26, l32_27, l32_28, l32_29, l32_33, l32_40, l32_41, l32_44, l32_45, l32_59, l32_61, l32_91, l32_93, l32_123, l32_125, e1, e2, hr]
/-- too much is made -/
theorem c_giveM (hh : cHp t u w) (hx : cN (cel t) u v x) (wx : wfN x) (h3 : kI t 48 3 = Int32.ofNat T.2.1) (hm : T.2.1 ≤ 3000) (ho : ¬ T.2.1 + ctV (vw x) ≤ 3000) (hr : cf_156 N X (Int32.ofNat 11) q (Int32.ofNat 0) (jI t 48 3 (Int32.ofNat (T.2.1 + ctV (vw x)))) = some (t2, .inl none)) {g : Int32} : cf_144 N X v g q t = some (t2, .inl none) := by
  have e1 := c_kn (N := N) (X := X) hx
  have lx := kn_le (x := x)
  have e2 := c_made (N := N) (X := X) hh hx wx
  have hb := ct_le wx
  have ho' : 3000 < T.2.1 + ctV (vw x) := by omega
  generalize ctV (vw x) = c at *
  generalize T.2.1 = md at *
  have n4 : ¬ kn x = 4 := by omega
  generalize kn x = kk at *
  have e3 : cf_236 N X (Int32.ofNat c) t = some (jI t 48 3 (Int32.ofNat (md + c)), .inl (some (.int (Int32.ofNat 0)))) := by
    unfold cf_236 cf_236_0 cf_236_24 cf_236_25
    simp (disch := omega) only [ev_S, ev_C, ↓reduceIte, Nat.reduceEqDiff, Nat.reduceLeDiff, Nat.reduceAdd, Nat.reduceMul, Nat.reduceSub, reduceCtorEq, l32_0, l32_1, l32_2, l32_3, l32_4, l32_5, l32_6, l32_7, l32_8, l32_9, l32_10, l32_11, l32_12, l32_13, l32_14, l32_15, l32_16, l32_17, l32_18, l32_19, l32_20, l32_21, l32_22, l32_23, l32_24, l32_25, l32_26, l32_27, l32_28, l32_29, l32_33, l32_40, l32_41, l32_44, l32_45, l32_59, l32_61, l32_91, l32_93, l32_123, l32_125, h3, ho', l32_3000]
  unfold cf_144 cf_144_0 cf_144_4 cf_144_22 cf_144_34 cf_144_37 cf_144_40 cf_144_49 cf_144_71
  simp (disch := omega) only [ev_S, ev_C, ↓reduceIte, Nat.reduceEqDiff, Nat.reduceLeDiff, Nat.reduceAdd, Nat.reduceMul, Nat.reduceSub, reduceCtorEq, l32_0, l32_1, l32_2, l32_3, l32_4, l32_5, l32_6, l32_7, l32_8, l32_9, l32_10, l32_11, l32_12, l32_13, l32_14, l32_15, l32_16, l32_17, l32_18, l32_19, l32_20, l32_21, l32_22, l32_23, l32_24, l32_25, l32_26, l32_27, l32_28, l32_29, l32_33, l32_40, l32_41, l32_44, l32_45, l32_59, l32_61, l32_91, l32_93, l32_123, l32_125, e1, n4, e2, e3, hr]
theorem CB.md (h : CB t0 t p code Fs fu T out) {c : Nat} : CB t0 (jI t 48 3 (Int32.ofNat c)) p code Fs fu (T.1, c, T.2.2) out := by
  obtain ⟨a1, ⟨b1, b2, b3, b4, b5⟩, ⟨c1, c2, c3⟩, a4, a5, a6⟩ := h
  have g : gf (fun k f => k = 48 ∧ f = 3) (fun _ => False) t (jI t 48 3 (Int32.ofNat c)) := gf_I
  exact ⟨a1.keep g (fun f => ⟨fun q => by omega, fun q => by omega⟩) (fun k k1 k2 q => q), ⟨b1, b2, rfl, b4, b5⟩, ⟨c1, c2, c3⟩, a4.keep2 g (fun q => by omega) (fun q => q) (fun q => q), a5, a6.tr2 (g.mono2 (fun k f q => by show k = 42 ∨ k = 45 ∨ (k = 48 ∧ ¬ f = 0) ∨ k = 49 ∨ k = 58; omega) (fun k q => q.elim))⟩
theorem CX.md (h : CX t0 t p code Fs fu S0 u w F sh T out) {c : Nat} : CX t0 (jI t 48 3 (Int32.ofNat c)) p code Fs fu S0 u w F sh (T.1, c, T.2.2) out := by
  obtain ⟨h1, h2, h3, h4⟩ := h
  obtain ⟨a1, a2, a3, a4, a5, a6, a7, a8⟩ := h2
  exact ⟨h1.md, ⟨a1, cFr.ji a2, a3, a4, a5, a6, a7, a8⟩, h3.I (by decide), h4⟩
/-- it comes in the stead of what it was made of -/
theorem CX.give (h : CX t0 t p code Fs fu S0 u w ((m, d, vs, J ++ I) :: F) sh T out) (hl : (cStk ((m, d, vs, J ++ I) :: F)).length ≤ 20000) (hJ : ∀ y ∈ J, ¬ y.1 = 3) (hj : (cIt J).length = j) (hx : cN (cel t) u v x) (wx : wfN x) (hm : T.2.1 + ctV (vw x) ≤ 3000) : ∃ t', cf_144 N X v (Int32.ofNat j) q t = some (t', .inl none) ∧ CX t0 t' p code Fs fu S0 u w ((m', d', vs, (0, [x], 0) :: I) :: F) sh (T.1, T.2.1 + ctV (vw x), T.2.2) out ∧ kI t' 49 17 = kI t 49 17 := by
  have e1 := c_kn (N := N) (X := X) hx
  have lx := kn_le (x := x)
  have e2 := c_made (N := N) (X := X) h.2.2.1 hx wx
  have h3 := h.1.2.1.2.2.1
  have eC : cStk ((m, d, vs, J ++ I) :: F) = cIt J ++ cStk ((m', d', vs, I) :: F) := by
    show (J ++ I).flatMap iC ++ _ = J.flatMap iC ++ (I.flatMap iC ++ _)
    rw [List.flatMap_append, List.append_assoc]
  have eT : tStk ((m', d', vs, I) :: F) = tStk ((m, d, vs, J ++ I) :: F) := by
    show tIt _ _ I ++ _ = tIt _ _ (J ++ I) ++ _
    rw [tIt_app hJ]
  have H1 := h.md (c := T.2.1 + ctV (vw x))
  have H2 := H1.lower eC eT
  have h8 := h.2.2.2
  rw [eC, List.length_append, hj] at h8
  have hl' := hl
  rw [eC, List.length_append, hj] at hl'
  obtain ⟨t', b1, b2, b3, b4⟩ := CX.push (N := N) (X := X) (m' := m') (d' := d') (it := (0, [x], 0)) (o := some x) H2 (by omega) hx (by show ¬ (0 : Nat) = 3; decide) rfl
  refine ⟨t', ?_, b2, b3⟩
  have e3 : cf_236 N X (Int32.ofNat (ctV (vw x))) t = some (jI t 48 3 (Int32.ofNat (T.2.1 + ctV (vw x))), .inl (some (.int (Int32.ofNat 1)))) := by
    generalize ctV (vw x) = c at *
    generalize T.2.1 = md at *
    have ho : ¬ 3000 < md + c := by omega
    unfold cf_236 cf_236_0 cf_236_20 cf_236_25
    simp (disch := omega) only [ev_S, ev_C, ↓reduceIte, Nat.reduceEqDiff, Nat.reduceLeDiff, Nat.reduceAdd, Nat.reduceMul, Nat.reduceSub, reduceCtorEq, l32_0, l32_1, l32_2, l32_3, l32_4, l32_5, l32_6, l32_7, l32_8, l32_9, l32_10, l32_11, l32_12, l32_13, l32_14, l32_15, l32_16, l32_17, l32_18, l32_19, l32_20, l32_21, l32_22, l32_23, l32_24, l32_25, l32_26, l32_27, l32_28, l32_29, l32_33, l32_40, l32_41, l32_44, l32_45, l32_59, l32_61, l32_91, l32_93, l32_123, l32_125, h3, ho, l32_3000]
  have n4 : ¬ kn x = 4 := by omega
  have hb := ct_le wx
  generalize (cStk ((m', d', vs, I) :: F)).length = n at *
  clear H1 H2 b2 eC eT hl b4
  have sb : Int32.ofNat (j + n) - Int32.ofNat j = Int32.ofNat n := by rw [← Int32.ofNat_sub _ _ (by omega), Nat.add_sub_cancel_left]
  have h8' : kI (jI t 48 3 (Int32.ofNat (T.2.1 + ctV (vw x)))) 49 8 = Int32.ofNat (j + n) := h8
  have ng : ¬ n < 0 := by omega
  generalize ctV (vw x) = c at *
  generalize kn x = kk at *
  unfold cf_144 cf_144_0 cf_144_4 cf_144_22 cf_144_34 cf_144_37 cf_144_52 cf_144_71
  simp (disch := omega) only [ev_S, ev_C, ↓reduceIte, Nat.reduceEqDiff, Nat.reduceLeDiff, Nat.reduceAdd, Nat.reduceMul, Nat.reduceSub, reduceCtorEq, l32_0, l32_1, l32_2, l32_3, l32_4, l32_5, l32_6, l32_7, l32_8, l32_9, l32_10, l32_11, l32_12, l32_13, l32_14, l32_15, l32_16, l32_17, l32_18, l32_19, l32_20, l32_21, l32_22, l32_23, l32_24, l32_25, l32_26, l32_27, l32_28, l32_29, l32_33, l32_40, l32_41, l32_44, l32_45, l32_59, l32_61, l32_91, l32_93, l32_123, l32_125, e1, n4, e2, e3, h8', sb, ng, b1]
end GIV
end
-- ### 98j.pure.lean.txt
section
/-! ===== PURE: run (87): a variable is set (the class) ===== -/
/-- a variable is set -/
def stV (r : Nat) (x : Nod) (vs : List (Option Nod)) : List (Option Nod) := if r < 8 then vs else vs.set (r - 8) (some x)
def stS (r : Nat) (x : Nod) (sh : Nat → Option Nod) : Nat → Option Nod := fun i => if i = r then some x else sh i
section STV
variable {N : Nat} {X : Nat → Option zz_C} {t0 t t' t2 : cS} {u w p fu m m' d d' r n : Nat} {code : List Ins} {Fs : List Fn} {T : Ty} {out : List Int32} {F : List Fm} {sh S0 : Nat → Option Nod} {vs : List (Option Nod)} {I : List It} {v : Int64} {x : Nod}
theorem rev_set {α : Type} {l : List α} {i : Nat} {y : α} (hi : i < l.length) : (l.set i y).reverse = l.reverse.set (l.length - 1 - i) y := by
  refine List.ext_getElem (by simp) (fun j h1 h2 => ?_)
  have hj : j < l.length := by simpa using h1
  rw [List.getElem_reverse, List.getElem_set, List.getElem_set, List.getElem_reverse]
  simp only [List.length_set]
  by_cases c : i = l.length - 1 - j
  · rw [if_pos c, if_pos (by omega)]
  · rw [if_neg c, if_neg (by omega)]
theorem cStk_set {i : Nat} (hi : i < vs.length) : (cStk ((m, d, vs, I) :: F)).set ((cIt I).length + (vs.length - 1 - i)) (some x) = cStk ((m', d', vs.set i (some x), I) :: F) := by
  show (cIt I ++ (vs.reverse ++ cStk F)).set _ _ = cIt I ++ ((vs.set i (some x)).reverse ++ cStk F)
  rw [List.set_append_right _ _ (by omega), Nat.add_sub_cancel_left, List.set_append_left _ _ (by rw [List.length_reverse]; omega), rev_set hi]
theorem c_isSh {i : Nat} (hi : i < 8) : cf_21 N X (Int32.ofNat i) t = some (t, .inl (some (.int (Int32.ofNat 1)))) := by
  have h1 : ¬ i < 0 := by omega
  repeat ((first | unfold cf_21 | unfold cf_21_0 | unfold cf_21_4 | unfold cf_21_10 | unfold cf_21_14 | unfold cf_21_15); try simp (disch := omega) only [ev_S, ev_C, ↓reduceIte, Nat.reduceEqDiff, Nat.reduceLeDiff, Nat.reduceAdd, Nat.reduceMul, Nat.reduceSub, reduceCtorEq, l32_0, l32_1, l32_2, l32_3, l32_4, l32_8, hi])
theorem c_noSh {z : Int32} (hz : z < 0) : cf_21 N X z t = some (t, .inl (some (.int (Int32.ofNat 0)))) := by
  have hz : (z < Int32.ofNat 0) = True := eq_true hz
  unfold cf_21 cf_21_0
  simp (disch := omega) only [ev_S, ev_C, ↓reduceIte, Nat.reduceEqDiff, Nat.reduceLeDiff, Nat.reduceAdd, Nat.reduceMul, Nat.reduceSub, reduceCtorEq, l32_0, l32_1, l32_2, l32_3, l32_4, l32_5, l32_6, l32_7, l32_8, l32_9, l32_10, l32_11, l32_12, l32_13, l32_14, l32_15, l32_16, l32_17, l32_18, l32_19, l32_20, l32_21, l32_22, l32_23, l32_24, l32_25, l32_26, l32_27, l32_28, l32_29, l32_33, l32_40, l32_41, l32_44, l32_45, l32_59, l32_61, l32_91, l32_93, l32_123, l32_125, hz]
  rfl
theorem CX.store (h : CX t0 t p code Fs fu S0 u w ((m, d, vs, (0, [x], n) :: I) :: F) sh T out) (hl : (cStk ((m, d, vs, (0, [x], n) :: I) :: F)).length ≤ 20000) (hF : F.length ≤ 9) (hr : r < 8 + vs.length) (hv : vs.length ≤ 14) : ∃ t', cf_148 N X (cv r) t = some (t', .inl none) ∧ CX t0 t' p code Fs fu S0 u w ((m', d', stV r x vs, I) :: F) (if r < 8 then stS r x sh else sh) T out ∧ kI t' 49 17 = kI t 49 17 ∧ cel t' = cel t := by
  obtain ⟨t1, v, a1, a2, a3, a4, a5⟩ := CX.pop (N := N) (X := X) (m' := m) (d' := d) (o := some x) h hl (by show ¬ (0 : Nat) = 3; decide) rfl
  have hcalls := a3.2.1.2.2.2.2.2.2.1
  have hcalls : kI t1 49 11 = Int32.ofNat (F.length + 1) := hcalls
  have hb : (kA t1 53).2 F.length = Int32.ofNat (cStk F).length := a3.2.1.2.1.1
  have hl10 := a3.2.1.2.2.2.1
  have hlen : (cStk ((m, d, vs, I) :: F)).length = (cIt I).length + (vs.length + (cStk F).length) := by
    show (cIt I ++ (vs.reverse ++ cStk F)).length = _
    rw [List.length_append, List.length_append, List.length_reverse]
  have hlen2 : (cStk ((m, d, vs, (0, [x], n) :: I) :: F)).length = (cStk ((m, d, vs, I) :: F)).length + 1 := by
    rw [cStk_cons (m' := m) (d' := d), List.length_append]
    show 1 + _ = _
    omega
  have hsb : Int32.ofNat (F.length + 1) - Int32.ofNat 1 = Int32.ofNat F.length := by rw [← Int32.ofNat_sub _ _ (by omega)]; rfl
  have eAt : ∀ z : Int32, cf_149 N X z t1 = some (t1, .inl (some (.int (Int32.ofNat (cStk F).length + z)))) := fun z => by
    have h53 : (kA t1 53).1 = 10 := hl10.1
    have n1 : ¬ F.length + 1 ≤ 0 := by omega
    unfold cf_149 cf_149_0 cf_149_7 cf_149_24
    simp (disch := omega) only [ev_S, ev_C, ↓reduceIte, Nat.reduceEqDiff, Nat.reduceLeDiff, Nat.reduceAdd, Nat.reduceMul, Nat.reduceSub, reduceCtorEq, l32_0, l32_1, l32_2, l32_3, l32_4, l32_5, l32_6, l32_7, l32_8, l32_9, l32_10, l32_11, l32_12, l32_13, l32_14, l32_15, l32_16, l32_17, l32_18, l32_19, l32_20, l32_21, l32_22, l32_23, l32_24, l32_25, l32_26, l32_27, l32_28, l32_29, l32_33, l32_40, l32_41, l32_44, l32_45, l32_59, l32_61, l32_91, l32_93, l32_123, l32_125, hcalls, n1, hsb, h53, hb]
  by_cases c : r < 8
  · have ecv : cv r = -Int32.ofNat (r + 1) := if_pos c
    have esb : (-1 : Int32) - (-Int32.ofNat (r + 1)) = Int32.ofNat r := by
      have hv : r = 0 ∨ r = 1 ∨ r = 2 ∨ r = 3 ∨ r = 4 ∨ r = 5 ∨ r = 6 ∨ r = 7 := by omega
      rcases hv with rfl | rfl | rfl | rfl | rfl | rfl | rfl | rfl <;> decide
    have eS := c_isSh (N := N) (X := X) (t := t1) c
    have h50 : (kB t1 50).1 = 8 := hl10.2.2.1
    have h51 : (kA t1 51).1 = 8 := hl10.2.2.2.1
    have E : cf_148 N X (cv r) t = some (jA (jB t1 50 (vp_updL (kB t1 50).2 r v)) 51 (upd (kA t1 51).2 r 1), .inl none) := by
      rw [ecv]
      have eAt' := eAt (-Int32.ofNat (r + 1))
      generalize Int32.ofNat (cStk F).length + -Int32.ofNat (r + 1) = zz at *
      have E1 : cf_148 N X (-Int32.ofNat (r + 1)) t = cf_148_25 N X v (Int32.ofNat r) t1 := by
        unfold cf_148 cf_148_0 cf_148_4 cf_148_15 cf_148_22
        rw [esb]
        simp (disch := omega) only [ev_S, ev_C, ↓reduceIte, Nat.reduceEqDiff, Nat.reduceLeDiff, Nat.reduceAdd, Nat.reduceMul, Nat.reduceSub, reduceCtorEq, l32_0, l32_1, l32_2, l32_3, l32_4, l32_5, l32_6, l32_7, l32_8, l32_9, l32_10, l32_11, l32_12, l32_13, l32_14, l32_15, l32_16, l32_17, l32_18, l32_19, l32_20, l32_21, l32_22, l32_23, l32_24, l32_25, l32_26, l32_27, l32_28, l32_29, l32_33, l32_40, l32_41, l32_44, l32_45, l32_59, l32_61, l32_91, l32_93, l32_123, l32_125, a1, eAt', eS]
      rw [E1]
      unfold cf_148_25 cf_148_66
      simp (disch := omega) only [ev_S, ev_C, ↓reduceIte, Nat.reduceEqDiff, Nat.reduceLeDiff, Nat.reduceAdd, Nat.reduceMul, Nat.reduceSub, reduceCtorEq, l32_0, l32_1, l32_2, l32_3, l32_4, l32_5, l32_6, l32_7, l32_8, l32_9, l32_10, l32_11, l32_12, l32_13, l32_14, l32_15, l32_16, l32_17, l32_18, l32_19, l32_20, l32_21, l32_22, l32_23, l32_24, l32_25, l32_26, l32_27, l32_28, l32_29, l32_33, l32_40, l32_41, l32_44, l32_45, l32_59, l32_61, l32_91, l32_93, l32_123, l32_125, h50, h51, c]
      rfl
    refine ⟨_, E, ?_, a4, ?_⟩
    · rw [if_pos c]
      unfold stV
      rw [if_pos c]
      obtain ⟨b1, b2, b3, b4⟩ := a3
      have g : gf (fun _ _ => False) (fun k => k = 50 ∨ k = 51) t1 (jA (jB t1 50 (vp_updL (kB t1 50).2 r v)) 51 (upd (kA t1 51).2 r 1)) := ⟨fun _ _ _ => rfl, rfl, rfl, fun k k1 k2 => ⟨if_neg (fun q => k1 (Or.inr q)), if_neg (fun q => k1 (Or.inl q)), rfl⟩, rfl, rfl, Nat.le_refl _, Nat.le_refl _, Nat.le_refl _⟩
      refine ⟨b1.keep g (fun _ _ q => q.elim) (fun k q => by omega), ?_, g.hp b3 (fun q => q) (fun q => q) (by decide) (by decide) (by decide), b4⟩
      obtain ⟨c1, c2, c3, c4, c5, c6, c7, c8⟩ := b2
      refine ⟨c1, cFr.keep (t := t1) (t' := jA (jB t1 50 (vp_updL (kB t1 50).2 r v)) 51 (upd (kA t1 51).2 r 1)) rfl rfl c2, c3, c4, c5, fun i hi => ?_, c7, c8⟩
      show cC (cel t1) u (if i = r then v else (kB t1 50).2 i) (if i = r then some x else sh i) ∧ ((if i = r then (1 : Int32) else (kA t1 51).2 i) = 0 ∨ (if i = r then (1 : Int32) else (kA t1 51).2 i) = 1) ∧ ((if i = r then (1 : Int32) else (kA t1 51).2 i) = 0 → (if i = r then some x else sh i) = S0 i)
      by_cases e : i = r
      · rw [if_pos e, if_pos e, if_pos e]
        rw [← a5] at a2
        exact ⟨a2, Or.inr rfl, fun q => absurd q (by decide)⟩
      · rw [if_neg e, if_neg e, if_neg e]
        exact c6 i hi
    · exact a5
  · have ecv : cv r = Int32.ofNat (r - 8) := if_neg c
    have hi : r - 8 < vs.length := by omega
    have esb : (-Int32.ofNat 1 - Int32.ofNat (r - 8)) < 0 := by
      have hv : r - 8 < 14 := by omega
      generalize r - 8 = q at *
      have hv : q = 0 ∨ q = 1 ∨ q = 2 ∨ q = 3 ∨ q = 4 ∨ q = 5 ∨ q = 6 ∨ q = 7 ∨ q = 8 ∨ q = 9 ∨ q = 10 ∨ q = 11 ∨ q = 12 ∨ q = 13 := by omega
      rcases hv with rfl | rfl | rfl | rfl | rfl | rfl | rfl | rfl | rfl | rfl | rfl | rfl | rfl | rfl <;> decide
    have eS := c_noSh (N := N) (X := X) (t := t1) esb
    have h8 := a3.2.2.2
    obtain ⟨s1, s2, s3, s4⟩ := a3.2.1.1
    have E : cf_148 N X (cv r) t = some (jB t1 52 (vp_updL (kB t1 52).2 ((cStk F).length + (r - 8)) v), .inl none) := by
      rw [ecv]
      have eAt' := eAt (Int32.ofNat (r - 8))
      rw [hlen] at h8
      have hq : (cStk F).length + (r - 8) < (kB t1 52).1 := by omega
      have hq2 : ¬ (cIt I).length + (vs.length + (cStk F).length) ≤ (cStk F).length + (r - 8) := by omega
      have hq3 : (cStk F).length < 20000 := by omega
      have hq4 : (cIt I).length + (vs.length + (cStk F).length) < 20000 := by omega
      rw [show Int32.ofNat (cStk F).length + Int32.ofNat (r - 8) = Int32.ofNat ((cStk F).length + (r - 8)) from (Int32.ofNat_add _ _).symm] at eAt'
      generalize (cStk F).length + (r - 8) = q at *
      generalize (cIt I).length + (vs.length + (cStk F).length) = q' at *
      have E1 : cf_148 N X (Int32.ofNat (r - 8)) t = cf_148_44 N X v (Int32.ofNat q) t1 := by
        generalize r - 8 = q2 at *
        unfold cf_148 cf_148_0 cf_148_4 cf_148_15 cf_148_22
        simp (disch := omega) only [ev_S, ev_C, ↓reduceIte, Nat.reduceEqDiff, Nat.reduceLeDiff, Nat.reduceAdd, Nat.reduceMul, Nat.reduceSub, reduceCtorEq, l32_0, l32_1, l32_2, l32_3, l32_4, l32_5, l32_6, l32_7, l32_8, l32_9, l32_10, l32_11, l32_12, l32_13, l32_14, l32_15, l32_16, l32_17, l32_18, l32_19, l32_20, l32_21, l32_22, l32_23, l32_24, l32_25, l32_26, l32_27, l32_28, l32_29, l32_33, l32_40, l32_41, l32_44, l32_45, l32_59, l32_61, l32_91, l32_93, l32_123, l32_125, a1, eAt', eS]
      rw [E1]
      unfold cf_148_44 cf_148_49 cf_148_58 cf_148_66
      simp (disch := omega) only [ev_S, ev_C, ↓reduceIte, Nat.reduceEqDiff, Nat.reduceLeDiff, Nat.reduceAdd, Nat.reduceMul, Nat.reduceSub, reduceCtorEq, l32_0, l32_1, l32_2, l32_3, l32_4, l32_5, l32_6, l32_7, l32_8, l32_9, l32_10, l32_11, l32_12, l32_13, l32_14, l32_15, l32_16, l32_17, l32_18, l32_19, l32_20, l32_21, l32_22, l32_23, l32_24, l32_25, l32_26, l32_27, l32_28, l32_29, l32_33, l32_40, l32_41, l32_44, l32_45, l32_59, l32_61, l32_91, l32_93, l32_123, l32_125, h8, hq2]
    refine ⟨_, E, ?_, a4, a5⟩
    rw [if_neg c]
    unfold stV
    rw [if_neg c]
    obtain ⟨b1, b2, b3, b4⟩ := a3
    have g : gf (fun _ _ => False) (fun k => k = 52) t1 (jB t1 52 (vp_updL (kB t1 52).2 ((cStk F).length + (r - 8)) v)) := ⟨fun _ _ _ => rfl, rfl, rfl, fun k k1 k2 => ⟨rfl, if_neg k1, rfl⟩, rfl, rfl, Nat.le_refl _, Nat.le_refl _, Nat.le_refl _⟩
    have hcl : (cStk ((m', d', vs.set (r - 8) (some x), I) :: F)).length = (cStk ((m, d, vs, I) :: F)).length := by rw [← cStk_set (m := m) (d := d) hi, List.length_set]
    refine ⟨b1.keep g (fun _ _ q => q.elim) (fun k q => by omega), b2.stk g (fun _ q => q.elim) (fun k q => q) ⟨?_, by rw [hcl]; exact s2, s3, s4⟩ ?_, g.hp b3 (fun q => q) (fun q => q) (by decide) (by decide) (by decide), by rw [hcl]; exact b4⟩
    · rw [← cStk_set (m := m) (d := d) hi]
      refine stk.upd (g := (kB t1 52).2) (v := v) (by rw [hlen]; omega) s1 (by rw [← a5] at a2; exact a2) (fun j => ?_)
      rw [hlen, show (cIt I).length + (vs.length + (cStk F).length) - 1 - ((cIt I).length + (vs.length - 1 - (r - 8))) = (cStk F).length + (r - 8) by omega]
      rfl
    · show tIt (_ + _) _ I ++ _ = tIt (_ + _) _ I ++ _
      rw [List.length_set]
end STV
end
-- ### 98k.pure.lean.txt
section
/-! ===== PURE: run (88): the acts and orders of each instruction ===== -/
section AOI
variable {code : List Ins} {own e m : Nat} {c : Ins}
theorem posC_s (hm : m < code.length) : posC code (m + 1) = posC code m + clen (inA code m) := by
  unfold posC
  rw [List.take_succ_eq_append_getElem hm, List.map_append, List.sum_append]
  have : inA code m = code[m] := by
    show code.getD m dI = _
    rw [List.getD_eq_getElem?_getD, List.getElem?_eq_getElem hm]
    rfl
  rw [this]
  rfl
theorem posR_s (hm : m < code.length) : posR code (m + 1) = posR code m + rlen (inA code m) := by
  unfold posR
  rw [List.take_succ_eq_append_getElem hm, List.map_append, List.sum_append]
  have : inA code m = code[m] := by
    show code.getD m dI = _
    rw [List.getD_eq_getElem?_getD, List.getElem?_eq_getElem hm]
    rfl
  rw [this]
  rfl
theorem lyo_s {L : List Nat} (hm : m < code.length) (hL : lyo (code.take m) = some L) : lyo (code.take (m + 1)) = eff (inA code m) L := by
  have : inA code m = code[m] := by
    show code.getD m dI = _
    rw [List.getD_eq_getElem?_getD, List.getElem?_eq_getElem hm]
    rfl
  rw [List.take_succ_eq_append_getElem hm, lyo_app, hL, this]
  rfl
theorem cI_0 (h : c.1 = 0) : cI code own c = [(0, c.2.2.2.1, c.2.2.2.2.1)] ∧ rI e code c = [(2, c.2.2.2.1, 0, 0, c.2.2.2.2.1)] := by
  obtain ⟨o, j, r, a, p, x, y⟩ := c
  have h : o = 0 := h
  subst h
  exact ⟨rfl, rfl⟩
theorem cI_1 (h : c.1 = 1) : cI code own c = [(1, cv c.2.2.1, c.2.2.2.2.1)] ∧ rI e code c = [(3, Int32.ofNat c.2.2.1, 0, 0, c.2.2.2.2.1)] := by
  obtain ⟨o, j, r, a, p, x, y⟩ := c
  have h : o = 1 := h
  subst h
  exact ⟨rfl, rfl⟩
theorem cI_2 (h : c.1 = 2) : cI code own c = [(0, 0, c.2.2.2.2.1)] ∧ rI e code c = [] := by
  obtain ⟨o, j, r, a, p, x, y⟩ := c
  have h : o = 2 := h
  subst h
  exact ⟨rfl, rfl⟩
theorem cI_3 (h : c.1 = 3) : cI code own c = [(19, 45, c.2.2.2.2.1)] ∧ rI e code c = [(4, 45, 0, 0, c.2.2.2.2.1)] := by
  obtain ⟨o, j, r, a, p, x, y⟩ := c
  have h : o = 3 := h
  subst h
  exact ⟨rfl, rfl⟩
theorem cI_4 (h : c.1 = 4) : cI code own c = [(0, 0, c.2.2.2.2.1), (19, 317, c.2.2.2.2.1)] ∧ rI e code c = [(4, 33, 0, 0, c.2.2.2.2.1)] := by
  obtain ⟨o, j, r, a, p, x, y⟩ := c
  have h : o = 4 := h
  subst h
  exact ⟨rfl, rfl⟩
theorem cI_5 (h : c.1 = 5) : cI code own c = [(19, Int32.ofNat c.2.2.1, c.2.2.2.2.1)] ∧ rI e code c = [(5, Int32.ofNat (sgv c.2.2.1), 0, 0, c.2.2.2.2.1)] := by
  obtain ⟨o, j, r, a, p, x, y⟩ := c
  have h : o = 5 := h
  subst h
  exact ⟨rfl, rfl⟩
theorem cI_6 (h : c.1 = 6) : cI code own c = [(20, Int32.ofNat c.2.1, c.2.2.2.2.1)] ∧ rI e code c = [(6, Int32.ofNat c.2.1, 0, 0, c.2.2.2.2.1)] := by
  obtain ⟨o, j, r, a, p, x, y⟩ := c
  have h : o = 6 := h
  subst h
  exact ⟨rfl, rfl⟩
theorem cI_7 (h : c.1 = 7) : cI code own c = [(21, 0, c.2.2.2.2.1)] ∧ rI e code c = [(7, 0, 0, 0, c.2.2.2.2.1)] := by
  obtain ⟨o, j, r, a, p, x, y⟩ := c
  have h : o = 7 := h
  subst h
  exact ⟨rfl, rfl⟩
theorem cI_8 (h : c.1 = 8) : cI code own c = (if c.2.2.1 = 5 then [(24, Int32.ofNat c.2.1, c.2.2.2.2.1)] else if c.2.1 = 1 then [(22, Int32.ofNat (c.2.2.1 + 11), c.2.2.2.2.1)] else [(23, Int32.ofNat (c.2.2.1 + 11), c.2.2.2.2.1)]) ∧ rI e code c = [(8, Int32.ofNat c.2.2.1, Int32.ofNat c.2.1, 0, c.2.2.2.2.1)] := by
  obtain ⟨o, j, r, a, p, x, y⟩ := c
  have h : o = 8 := h
  subst h
  exact ⟨rfl, rfl⟩
theorem cI_9 (h : c.1 = 9) : cI code own c = [(28, fa c.2.1, c.2.2.2.2.1)] ∧ rI e code c = [(9, fr e c.2.1, Int32.ofNat c.2.2.1, 0, c.2.2.2.2.1)] := by
  obtain ⟨o, j, r, a, p, x, y⟩ := c
  have h : o = 9 := h
  subst h
  exact ⟨rfl, rfl⟩
theorem cI_10 (h : c.1 = 10) : cI code own c = [(25, 0, c.2.2.2.2.1), (if c.2.2.1 = 1 then 13 else 15, fa c.2.1, c.2.2.2.2.1), (if c.2.2.1 = 1 then 14 else 16, Int32.ofNat (own + 1), c.2.2.2.2.1)] ∧ rI e code c = [(10, Int32.ofNat (27 + c.2.2.1), 0, 0, c.2.2.2.2.1), (11, Int32.ofNat (27 + c.2.2.1), fr e c.2.1, 0, c.2.2.2.2.1)] := by
  obtain ⟨o, j, r, a, p, x, y⟩ := c
  have h : o = 10 := h
  subst h
  exact ⟨rfl, rfl⟩
theorem cI_11 (h : c.1 = 11) : cI code own c = [(2, cv c.2.2.1, c.2.2.2.2.1)] ∧ rI e code c = [(12, Int32.ofNat c.2.2.1, 0, 0, c.2.2.2.2.1)] := by
  obtain ⟨o, j, r, a, p, x, y⟩ := c
  have h : o = 11 := h
  subst h
  exact ⟨rfl, rfl⟩
theorem cI_12 (h : c.1 = 12) : cI code own c = [(1, cv c.2.2.1, c.2.2.2.2.2.1), (if c.2.1 = 1 then 17 else 18, c.2.2.2.2.2.2, c.2.2.2.2.1), (2, cv c.2.2.1, c.2.2.2.2.2.1)] ∧ rI e code c = [(13, Int32.ofNat c.2.2.1, if c.2.1 = 1 then -1 else c.2.2.2.2.2.2, c.2.2.2.2.2.1, c.2.2.2.2.1)] := by
  obtain ⟨o, j, r, a, p, x, y⟩ := c
  have h : o = 12 := h
  subst h
  exact ⟨rfl, rfl⟩
theorem cI_13 (h : c.1 = 13) : cI code own c = [(5, tgC code c.2.1 0, c.2.2.2.2.1)] ∧ rI e code c = [(14, tgR e code c.2.1 0, 0, 0, c.2.2.2.2.1)] := by
  obtain ⟨o, j, r, a, p, x, y⟩ := c
  have h : o = 13 := h
  subst h
  exact ⟨rfl, rfl⟩
theorem cI_14 (h : c.1 = 14) : cI code own c = [(4, tgC code c.2.1 0, c.2.2.2.2.1)] ∧ rI e code c = [(15, tgR e code c.2.1 0, 0, 0, 0)] := by
  obtain ⟨o, j, r, a, p, x, y⟩ := c
  have h : o = 14 := h
  subst h
  exact ⟨rfl, rfl⟩
theorem cI_15 (h : c.1 = 15) : cI code own c = [(26, 0, c.2.2.2.2.1)] ∧ rI e code c = [(16, 0, 0, 0, c.2.2.2.2.1)] := by
  obtain ⟨o, j, r, a, p, x, y⟩ := c
  have h : o = 15 := h
  subst h
  exact ⟨rfl, rfl⟩
theorem cI_16 (h : c.1 = 16) : cI code own c = [(26, 0, c.2.2.2.2.1)] ∧ rI e code c = [(1, 0, 0, 0, c.2.2.2.2.1)] := by
  obtain ⟨o, j, r, a, p, x, y⟩ := c
  have h : o = 16 := h
  subst h
  exact ⟨rfl, rfl⟩
theorem cI_17 (h : c.1 = 17) : cI code own c = [(6, 0, c.2.2.2.2.1)] ∧ rI e code c = [(17, 0, 0, 0, c.2.2.2.2.1)] := by
  obtain ⟨o, j, r, a, p, x, y⟩ := c
  have h : o = 17 := h
  subst h
  exact ⟨rfl, rfl⟩
theorem cI_18 (h : c.1 = 18) : cI code own c = [(27, tgC code c.2.1 0, c.2.2.2.2.1), (2, cv c.2.2.1, c.2.2.2.2.1)] ∧ rI e code c = [(18, tgR e code c.2.1 0, Int32.ofNat c.2.2.1, 0, c.2.2.2.2.1)] := by
  obtain ⟨o, j, r, a, p, x, y⟩ := c
  have h : o = 18 := h
  subst h
  exact ⟨rfl, rfl⟩
theorem cI_19 (h : c.1 = 19) : cI code own c = [(7, 0, c.2.2.2.2.1)] ∧ rI e code c = [(19, 0, 0, 0, c.2.2.2.2.1)] := by
  obtain ⟨o, j, r, a, p, x, y⟩ := c
  have h : o = 19 := h
  subst h
  exact ⟨rfl, rfl⟩
theorem cI_20 (h : c.1 = 20) : cI code own c = [(8, 0, c.2.2.2.2.1)] ∧ rI e code c = [(20, 0, 0, 0, c.2.2.2.2.1)] := by
  obtain ⟨o, j, r, a, p, x, y⟩ := c
  have h : o = 20 := h
  subst h
  exact ⟨rfl, rfl⟩
theorem cI_21 (h : c.1 = 21) : cI code own c = [(9, 0, c.2.2.2.2.1)] ∧ rI e code c = [(21, 0, 0, 0, c.2.2.2.2.1)] := by
  obtain ⟨o, j, r, a, p, x, y⟩ := c
  have h : o = 21 := h
  subst h
  exact ⟨rfl, rfl⟩
theorem cI_22 (h : c.1 = 22) : cI code own c = [(3, 0, 0)] ∧ rI e code c = [(22, 0, 0, 0, c.2.2.2.2.2.1)] := by
  obtain ⟨o, j, r, a, p, x, y⟩ := c
  have h : o = 22 := h
  subst h
  exact ⟨rfl, rfl⟩
theorem cI_23 (h : c.1 = 23) : cI code own c = [(10, tgC code c.2.1 0, 0)] ∧ rI e code c = [(23, tgR e code c.2.1 0, Int32.ofNat c.2.2.1, 0, c.2.2.2.2.1)] := by
  obtain ⟨o, j, r, a, p, x, y⟩ := c
  have h : o = 23 := h
  subst h
  exact ⟨rfl, rfl⟩
theorem cI_24 (h : c.1 = 24) : cI code own c = [(11, tgC code c.2.1 0, 0)] ∧ rI e code c = [(24, tgR e code c.2.1 0, 0, 0, 0)] := by
  obtain ⟨o, j, r, a, p, x, y⟩ := c
  have h : o = 24 := h
  subst h
  exact ⟨rfl, rfl⟩
theorem cI_25 (h : c.1 = 25) : cI code own c = [(12, 0, c.2.2.2.2.1), (2, cv c.2.2.1, c.2.2.2.2.1)] ∧ rI e code c = [] := by
  obtain ⟨o, j, r, a, p, x, y⟩ := c
  have h : o = 25 := h
  subst h
  exact ⟨rfl, rfl⟩
theorem cI_26 (h : c.1 = 26) : cI code own c = [] ∧ rI e code c = [] := by
  obtain ⟨o, j, r, a, p, x, y⟩ := c
  have h : o = 26 := h
  subst h
  exact ⟨rfl, rfl⟩
end AOI
end
-- ### 98l.pure.lean.txt
section
/-! ===== PURE: run (89): a trouble is taken (the class) ===== -/
abbrev e89 : Nat → Nat → Prop := fun k f => (k = 48 ∧ ¬ f = 0) ∨ k = 49
abbrev aNo : Nat → Prop := fun _ => False
/-- the picture, however high the stack -/
def CY (t0 t : cS) (p : Nat) (code : List Ins) (Fs : List Fn) (fu : Nat) (S0 : Nat → Option Nod) (u w : Nat) (F : List Fm) (sh : Nat → Option Nod) (T : Ty) (out : List Int32) : Prop := CB t0 t p code Fs fu T out ∧ CM0 t u code F sh S0 ∧ cHp t u w
section TAK
variable {N : Nat} {X : Nat → Option zz_C} {t0 t t' t1 t2 : cS} {u w p fu m m' d d' k i : Nat} {code : List Ins} {Fs : List Fn} {T T' : Ty} {out : List Int32} {F F' G P : List Fm} {sh S0 : Nat → Option Nod} {vs : List (Option Nod)} {I : List It} {a : Fm} {q r z : Int32} {l : List (Option Nod)}
theorem g89 {f x : Nat} (hx : (x = 48 ∧ ¬ f = 0) ∨ x = 49) : gf e89 aNo t (jI t x f z) := gf_I.mono2 (fun k f' q => by show (k = 48 ∧ ¬ f' = 0) ∨ k = 49; omega) (fun k q => q)
theorem cFr.suf : ∀ {P : List Fm}, cFr t code (P ++ G) → cFr t code G
  | [], h => h
  | _ :: P, h => cFr.suf (P := P) h.2.2
/-- what the innermost try is -/
theorem try_ok {J : List It} {x : It} {b z : Nat} (h : okIs code b z (J ++ x :: I)) (hx : x.1 = 3) : okI1 code b z x I ∧ okIs code b z I := by
  induction J with
  | nil => exact h
  | cons y J ih => exact ih h.2
/-- what is left of the picture where only the tally and the machine's numbers change -/
theorem CX.cy (h : CX t0 t p code Fs fu S0 u w F sh T out) : CY t0 t p code Fs fu S0 u w F sh T out := ⟨h.1, h.2.1, h.2.2.1⟩
theorem CY.tk (h : CY t0 t p code Fs fu S0 u w F sh T out) (g : gf e89 aNo t t') (hT : cTy t' fu T') (hid : kI t' 48 6 = Int32.ofNat 0 ∧ kI t' 48 7 = -Int32.ofNat 1 ∧ kI t' 48 8 = Int32.ofNat 0) (hg : kI t' 49 18 = Int32.ofNat 1) (hc : cStk F = l ++ cStk F') (hf : cFr t code F') (ht : stk (tryP code) (fun i => ((kA t 55).2 i, (kA t 56).2 i, (kA t 57).2 i)) (tStk F')) (htl : (tStk F').length ≤ (tStk F).length) (h8 : kI t' 49 8 = Int32.ofNat (cStk F').length) (h11 : kI t' 49 11 = Int32.ofNat F'.length) (h15 : kI t' 49 15 = Int32.ofNat (tStk F').length) : CX t0 t' p code Fs fu S0 u w F' sh T' out := by
  obtain ⟨⟨a1, a2, a3, a4, a5, a6⟩, ⟨b1, b2, b3, b4, b5, b6, b7, b8⟩, c1⟩ := h
  have e : ∀ k, ¬ k = 111 → kA t' k = kA t k ∧ kB t' k = kB t k := fun k k2 => by
    have := g.2.2.2.1 k (fun q => q) k2
    exact ⟨this.1, this.2.1⟩
  refine ⟨⟨a1.keep g (fun f => ⟨fun q => by omega, fun q => by omega⟩) (fun _ _ _ q => q), hT, hid, a4.keep2 g (fun q => by omega) (fun q => q) (fun q => q), hg, a6.tr2 (g.mono2 (fun k f q => by show k = 42 ∨ k = 45 ∨ (k = 48 ∧ ¬ f = 0) ∨ k = 49 ∨ k = 58; omega) (fun k q => q.elim))⟩, ?_, g.hp c1 (by decide) (by decide) (fun q => q) (fun q => q) (fun q => q), h8⟩
  unfold CM0 cel
  rw [(e 55 (by omega)).1, (e 56 (by omega)).1, (e 57 (by omega)).1, (e 53 (by omega)).1, (e 54 (by omega)).1, (e 50 (by omega)).2, (e 51 (by omega)).1, (e 60 (by omega)).1, (e 43 (by omega)).2]
  refine ⟨?_, cFr.keep (e 53 (by omega)).1 (e 54 (by omega)).1 hf, ht, b4, by omega, b6, h11, h15⟩
  rw [hc] at b1
  have := b1.app
  unfold cSk cel at this ⊢
  rw [(e 52 (by omega)).2, (e 43 (by omega)).2]
  exact this
/-- what a trouble that is taken gives -/
def tkV (k : Nat) (r : Int32) : Int32 := if k = 9 then r else Int32.ofNat k
theorem c_taken (hE : CY t0 t p code Fs fu S0 u w F sh T out) (hcx : cx code < 6500) (hk : 1 ≤ k ∧ k < 10) (hu : unF F = some (m, F')) (hF' : F' = (m', d', vs, I) :: G) (hm : (inA code m).2.1 < code.length) (h25 : (inA code (inA code m).2.1).1 = 25) (hr : (inA code (inA code m).2.1).2.2.1 < 8 + vs.length) (hvs : vs.length ≤ 14) (hG : G.length ≤ 9) (hl : (cStk F).length ≤ 17500) (htl : (tStk F).length ≤ 500) (hT : okTy fu T) : ∃ t1, cf_156 N X (Int32.ofNat k) q r t = some (t1, .inl none) ∧ (T.2.1 + 300 ≤ 3000 → ∃ t2, (∀ Q i, i + 2 ≤ 1000000 → cf_141_L4 N X (Q + 2) 0 (Int32.ofNat i) t1 = cf_141_L4 N X Q 0 (Int32.ofNat (i + 2)) t2) ∧ CX t0 t2 p code Fs fu S0 u w (((inA code m).2.1 + 1, 0, stV (inA code (inA code m).2.1).2.2.1 (nZ (tkV k r)) vs, I) :: G) (if (inA code (inA code m).2.1).2.2.1 < 8 then stS (inA code (inA code m).2.1).2.2.1 (nZ (tkV k r)) sh else sh) (T.1, T.2.1 + 300, T.2.2.1, T.2.2.2 + 1) out ∧ kI t2 49 17 = Int32.ofNat (posC code ((inA code m).2.1 + 1))) ∧ (¬ T.2.1 + 300 ≤ 3000 → ∃ t2 tB, (∀ Q i, i + 2 ≤ 1000000 → cf_141_L4 N X (Q + 2) 0 (Int32.ofNat i) t1 = some (t2, .inl none)) ∧ CX t0 tB p code Fs fu S0 u w F' sh (T.1, T.2.1 + 300, T.2.2.1, T.2.2.2 + 1) out ∧ t2 = jI (tol tB (Int32.ofNat 11) (inA code (inA code m).2.1).2.2.2.2.1 (Int32.ofNat 0)) 49 18 (Int32.ofNat 0)) := by
  obtain ⟨hf1, hf2, hf3, hf4, hf5⟩ := hT
  obtain ⟨a0, I0, G0, u1, ⟨P, J, x, u2, u3, u4, u5⟩, u6, -, ⟨l, u7⟩, -⟩ := unF_some hu
  generalize hj : (inA code m).2.1 = j at *
  -- the class's tables of its tries
  have hE' := hE
  obtain ⟨⟨a1, ⟨e1, e2, e3, e4, e5⟩, ⟨i1, i2, i3⟩, a4, a5, a6⟩, ⟨b1, b2, b3, b4, b5, b6, b7, b8⟩, c1⟩ := hE'
  rw [u6] at b3 b8
  have hn : (tStk F).length = (tStk F').length + 1 := by rw [u6]; rfl
  obtain ⟨y1, y2, y3⟩ := b3.1
  have v1 : (kA t 55).2 (tStk F').length = Int32.ofNat F'.length := y1
  have v2 : (kA t 56).2 (tStk F').length = Int32.ofNat (cStk F').length := y2
  have v3 : (kA t 57).2 (tStk F').length = Int32.ofNat (posC code j) := by
    have := y3
    rw [show (inA code (m, (cStk F').length, F'.length).1).2.1 = j from hj] at this
    exact this
  have hF'l : F'.length = G.length + 1 := by rw [hF']; rfl
  have hcl : (cStk F').length ≤ 17500 := by rw [u7, List.length_append] at hl; omega
  have htr : (tStk F').length + 1 ≤ 1000 := by omega
  have b8' : kI t 49 15 = Int32.ofNat ((tStk F').length + 1) := b8
  -- the fall
  have hsb : Int32.ofNat ((tStk F').length + 1) - Int32.ofNat 1 = Int32.ofNat (tStk F').length := by rw [← Int32.ofNat_sub _ _ (by omega)]; rfl
  obtain ⟨t1, ht1⟩ : ∃ t1, t1 = jI (jI (jI (jI (tol t (Int32.ofNat k) q r) 49 15 (Int32.ofNat (tStk F').length)) 49 11 (Int32.ofNat F'.length)) 49 8 (Int32.ofNat (cStk F').length)) 49 17 (Int32.ofNat (posC code j)) := ⟨_, rfl⟩
  have efall : cf_156 N X (Int32.ofNat k) q r t = some (t1, .inl none) := by
    have e : cf_238 N X (Int32.ofNat k) q r t = some (tol t (Int32.ofNat k) q r, .inl none) := rfl
    have w15 : kI (tol t (Int32.ofNat k) q r) 49 15 = Int32.ofNat ((tStk F').length + 1) := b8'
    have k55 : kA (tol t (Int32.ofNat k) q r) 55 = kA t 55 := rfl
    have k56 : kA (tol t (Int32.ofNat k) q r) 56 = kA t 56 := rfl
    have k57 : kA (tol t (Int32.ofNat k) q r) 57 = kA t 57 := rfl
    have l56 : (kA t 56).1 = (kA t 55).1 := b5.2.1
    have l57 : (kA t 57).1 = (kA t 55).1 := b5.2.2.1
    have l55 : (tStk F').length < (kA t 55).1 := by have := b5.1; omega
    have m55 : (kA t 55).1 ≤ 1000 := b5.2.2.2.2
    have nk : ¬ 10 ≤ k := by omega
    rw [ht1]
    clear b3 u6 ht1
    generalize (tStk F').length = nt at *
    generalize (cStk F').length = nc at *
    generalize F'.length = nf at *
    unfold cf_156 cf_156_0 cf_156_10 cf_156_16 cf_156_29
    simp (disch := omega) only [ev_S, ev_C, ↓reduceIte, Nat.reduceEqDiff, Nat.reduceLeDiff, Nat.reduceAdd, Nat.reduceMul, Nat.reduceSub, reduceCtorEq, l32_0, l32_1, l32_2, l32_3, l32_4, l32_5, l32_6, l32_7, l32_8, l32_9, l32_10, l32_11, l32_12, l32_13, l32_14, l32_15, l32_16, l32_17, l32_18, l32_19, l32_20, l32_21, l32_22, l32_23, l32_24, l32_25, l32_26, l32_27, l32_28, l32_29, l32_33, l32_40, l32_41, l32_44, l32_45, l32_59, l32_61, l32_91, l32_93, l32_123, l32_125, e, nk, w15, hsb, k55, k56, k57, l56, l57, v1, v2, v3]
  have gt1 : gf e89 aNo t t1 := by
    rw [ht1]
    exact (((((((g89 (Or.inl ⟨rfl, by decide⟩)).tr2 (g89 (Or.inl ⟨rfl, by decide⟩))).tr2 (g89 (Or.inl ⟨rfl, by decide⟩))).tr2 (g89 (Or.inr rfl))).tr2 (g89 (Or.inr rfl))).tr2 (g89 (Or.inr rfl))).tr2 (g89 (Or.inr rfl)))
  -- the first act there
  have hcI := (cI_25 (code := code) (own := posC code j) (e := 0) h25).1
  generalize hpl : (inA code j).2.2.2.2.1 = pl at *
  generalize hrr : (inA code j).2.2.1 = rr at *
  obtain ⟨p0, p1⟩ := CA_at (l1 := []) hm hcI
  obtain ⟨p2, p3⟩ := CA_at (l1 := [((12 : Int32), (0 : Int32), pl)]) (a := (2, cv rr, pl)) (l := []) hm hcI
  have p1 : (CA code)[posC code j]'p0 = (12, 0, pl) := p1
  have hE1 : cEv t1 p code Fs := a1.keep gt1 (fun f => ⟨fun q => by omega, fun q => by omega⟩) (fun _ _ _ q => q)
  have hg1 : kI t1 49 18 = Int32.ofNat 1 := by rw [ht1]; exact a5
  have hn1 : kI t1 49 17 = Int32.ofNat (posC code j) := by rw [ht1]; rfl
  obtain ⟨tB, htB⟩ : ∃ tB, tB = jI (jI (jI (jI (jI (jI t1 49 17 (Int32.ofNat (posC code j + 1))) 48 5 (Int32.ofNat (T.2.2.2 + 1))) 48 3 (Int32.ofNat (T.2.1 + 300))) 48 6 (Int32.ofNat 0)) 48 7 (-Int32.ofNat 1)) 48 8 (Int32.ofNat 0) := ⟨_, rfl⟩
  have gtB : gf e89 aNo t tB := by
    rw [htB]
    exact gt1.tr2 (((((((g89 (Or.inr rfl)).tr2 (g89 (Or.inl ⟨rfl, by decide⟩))).tr2 (g89 (Or.inl ⟨rfl, by decide⟩))).tr2 (g89 (Or.inl ⟨rfl, by decide⟩))).tr2 (g89 (Or.inl ⟨rfl, by decide⟩))).tr2 (g89 (Or.inl ⟨rfl, by decide⟩))))
  have hcF : cFr t code F' := by
    rw [u2] at b2
    have := cFr.suf (P := P) b2
    rw [u1]
    exact this
  have HB : CX t0 tB p code Fs fu S0 u w F' sh (T.1, T.2.1 + 300, T.2.2.1, T.2.2.2 + 1) out := hE.tk gtB (by rw [htB, ht1]; exact ⟨e1, e2, rfl, e4, rfl⟩) (by rw [htB]; exact ⟨rfl, rfl, rfl⟩) (by rw [htB, ht1]; exact a5) u7 hcF b3.2 (by omega) (by rw [htB, ht1]; rfl) (by rw [htB, ht1]; rfl) (by rw [htB, ht1]; rfl)
  -- take
  have etake : cf_239 N X (jI t1 49 17 (Int32.ofNat (posC code j + 1))) = some (tB, .inl (some (.int (tkV k r)))) := by
    have w5 : kI (jI t1 49 17 (Int32.ofNat (posC code j + 1))) 48 5 = Int32.ofNat T.2.2.2 := by rw [ht1]; exact e5
    have w3 : kI (jI (jI t1 49 17 (Int32.ofNat (posC code j + 1))) 48 5 (Int32.ofNat (T.2.2.2 + 1))) 48 3 = Int32.ofNat T.2.1 := by rw [ht1]; exact e3
    have w6 : kI (jI (jI (jI t1 49 17 (Int32.ofNat (posC code j + 1))) 48 5 (Int32.ofNat (T.2.2.2 + 1))) 48 3 (Int32.ofNat (T.2.1 + 300))) 48 6 = Int32.ofNat k := by rw [ht1]; rfl
    have w8 : kI (jI (jI (jI t1 49 17 (Int32.ofNat (posC code j + 1))) 48 5 (Int32.ofNat (T.2.2.2 + 1))) 48 3 (Int32.ofNat (T.2.1 + 300))) 48 8 = r := by rw [ht1]; rfl
    have es : cf_241 N X (jI (jI (jI t1 49 17 (Int32.ofNat (posC code j + 1))) 48 5 (Int32.ofNat (T.2.2.2 + 1))) 48 3 (Int32.ofNat (T.2.1 + 300))) = some (tB, .inl none) := by rw [htB]; rfl
    have e236 : ∃ y, cf_236 N X (Int32.ofNat 300) (jI (jI t1 49 17 (Int32.ofNat (posC code j + 1))) 48 5 (Int32.ofNat (T.2.2.2 + 1))) = some (jI (jI (jI t1 49 17 (Int32.ofNat (posC code j + 1))) 48 5 (Int32.ofNat (T.2.2.2 + 1))) 48 3 (Int32.ofNat (T.2.1 + 300)), .inl (some (.int y))) := by
      by_cases c : 3000 < T.2.1 + 300
      · refine ⟨Int32.ofNat 0, ?_⟩
        unfold cf_236 cf_236_0 cf_236_24 cf_236_25
        simp (disch := omega) only [ev_S, ev_C, ↓reduceIte, Nat.reduceEqDiff, Nat.reduceLeDiff, Nat.reduceAdd, Nat.reduceMul, Nat.reduceSub, reduceCtorEq, l32_0, l32_1, l32_2, l32_3, l32_4, l32_5, l32_6, l32_7, l32_8, l32_9, l32_10, l32_11, l32_12, l32_13, l32_14, l32_15, l32_16, l32_17, l32_18, l32_19, l32_20, l32_21, l32_22, l32_23, l32_24, l32_25, l32_26, l32_27, l32_28, l32_29, l32_33, l32_40, l32_41, l32_44, l32_45, l32_59, l32_61, l32_91, l32_93, l32_123, l32_125, w3, c, l32_3000]
      · refine ⟨Int32.ofNat 1, ?_⟩
        unfold cf_236 cf_236_0 cf_236_20 cf_236_25
        simp (disch := omega) only [ev_S, ev_C, ↓reduceIte, Nat.reduceEqDiff, Nat.reduceLeDiff, Nat.reduceAdd, Nat.reduceMul, Nat.reduceSub, reduceCtorEq, l32_0, l32_1, l32_2, l32_3, l32_4, l32_5, l32_6, l32_7, l32_8, l32_9, l32_10, l32_11, l32_12, l32_13, l32_14, l32_15, l32_16, l32_17, l32_18, l32_19, l32_20, l32_21, l32_22, l32_23, l32_24, l32_25, l32_26, l32_27, l32_28, l32_29, l32_33, l32_40, l32_41, l32_44, l32_45, l32_59, l32_61, l32_91, l32_93, l32_123, l32_125, w3, c, l32_3000]
    obtain ⟨y, e236⟩ := e236
    have e236 : cf_236 N X 300 (jI (jI t1 49 17 (Int32.ofNat (posC code j + 1))) 48 5 (Int32.ofNat (T.2.2.2 + 1))) = _ := e236
    unfold tkV
    clear ht1 htB
    by_cases c9 : k = 9
    · rw [if_pos c9]
      unfold cf_239 cf_239_0 cf_239_17 cf_239_27 cf_239_38 cf_239_43
      simp (disch := omega) only [ev_S, ev_C, ↓reduceIte, Nat.reduceEqDiff, Nat.reduceLeDiff, Nat.reduceAdd, Nat.reduceMul, Nat.reduceSub, reduceCtorEq, l32_0, l32_1, l32_2, l32_3, l32_4, l32_5, l32_6, l32_7, l32_8, l32_9, l32_10, l32_11, l32_12, l32_13, l32_14, l32_15, l32_16, l32_17, l32_18, l32_19, l32_20, l32_21, l32_22, l32_23, l32_24, l32_25, l32_26, l32_27, l32_28, l32_29, l32_33, l32_40, l32_41, l32_44, l32_45, l32_59, l32_61, l32_91, l32_93, l32_123, l32_125, w5, e236, w6, w8, c9, es]
    · rw [if_neg c9]
      unfold cf_239 cf_239_0 cf_239_17 cf_239_34 cf_239_38 cf_239_43
      simp (disch := omega) only [ev_S, ev_C, ↓reduceIte, Nat.reduceEqDiff, Nat.reduceLeDiff, Nat.reduceAdd, Nat.reduceMul, Nat.reduceSub, reduceCtorEq, l32_0, l32_1, l32_2, l32_3, l32_4, l32_5, l32_6, l32_7, l32_8, l32_9, l32_10, l32_11, l32_12, l32_13, l32_14, l32_15, l32_16, l32_17, l32_18, l32_19, l32_20, l32_21, l32_22, l32_23, l32_24, l32_25, l32_26, l32_27, l32_28, l32_29, l32_33, l32_40, l32_41, l32_44, l32_45, l32_59, l32_61, l32_91, l32_93, l32_123, l32_125, w5, e236, w6, c9, es]
  have hB3 : kI tB 48 3 = Int32.ofNat (T.2.1 + 300) := HB.1.2.1.2.2.1
  refine ⟨t1, efall, fun hle => ?_, fun hgt => ?_⟩
  · subst hF'
    have e240 : cf_240 N X tB = some (tB, .inl (some (.int (Int32.ofNat 0)))) := by
      unfold cf_240 cf_240_0 cf_240_14 cf_240_15
      simp (disch := omega) only [ev_S, ev_C, ↓reduceIte, Nat.reduceEqDiff, Nat.reduceLeDiff, Nat.reduceAdd, Nat.reduceMul, Nat.reduceSub, reduceCtorEq, l32_0, l32_1, l32_2, l32_3, l32_4, l32_5, l32_6, l32_7, l32_8, l32_9, l32_10, l32_11, l32_12, l32_13, l32_14, l32_15, l32_16, l32_17, l32_18, l32_19, l32_20, l32_21, l32_22, l32_23, l32_24, l32_25, l32_26, l32_27, l32_28, l32_29, l32_33, l32_40, l32_41, l32_44, l32_45, l32_59, l32_61, l32_91, l32_93, l32_123, l32_125, hB3, hle, l32_3000]
    obtain ⟨t3, s1, s2, s3, s4⟩ := CX.push (N := N) (X := X) (m' := m') (d' := d') (v := tg 0 (tkV k r)) (it := (0, [nZ (tkV k r)], 0)) (o := some (nZ (tkV k r))) HB (by omega) cN_Z (by show ¬ (0 : Nat) = 3; decide) rfl
    have eon : cf_142 N X 12 0 pl (jI t1 49 17 (Int32.ofNat (posC code j + 1))) = some (t3, .inl none) := by
      have := c_mv12 (N := N) (X := X) (g := 0) (q := pl) (t := jI t1 49 17 (Int32.ofNat (posC code j + 1)))
      have this : cf_142 N X 12 0 pl (jI t1 49 17 (Int32.ofNat (posC code j + 1))) = _ := this
      rw [this]
      have eth := c_thing (N := N) (X := X) (t := tB) (k := Int32.ofNat 0) (a := tkV k r)
      have s1 : cf_165 N X (tg (Int32.ofNat 0) (tkV k r)) tB = _ := s1
      unfold cf_142_273 cf_142_278 cf_142_296 cf_155 cf_155_0 cf_155_8 cf_155_11 cf_155_19 cf_155_33 cf_155_38
      simp (disch := omega) only [ev_S, ev_C, ↓reduceIte, Nat.reduceEqDiff, Nat.reduceLeDiff, Nat.reduceAdd, Nat.reduceMul, Nat.reduceSub, reduceCtorEq, l32_0, l32_1, l32_2, l32_3, l32_4, l32_5, l32_6, l32_7, l32_8, l32_9, l32_10, l32_11, l32_12, l32_13, l32_14, l32_15, l32_16, l32_17, l32_18, l32_19, l32_20, l32_21, l32_22, l32_23, l32_24, l32_25, l32_26, l32_27, l32_28, l32_29, l32_33, l32_40, l32_41, l32_44, l32_45, l32_59, l32_61, l32_91, l32_93, l32_123, l32_125, etake, eth, e240, s1]
    have hB17 : kI tB 49 17 = Int32.ofNat (posC code j + 1) := by rw [htB]; rfl
    have s3' : kI t3 49 17 = Int32.ofNat (posC code j + 1) := s3.trans hB17
    have H3 := s2.pc (z := Int32.ofNat (posC code j + 1 + 1)) (Or.inl rfl)
    have hl3 : (cStk ((m', d', vs, (0, [nZ (tkV k r)], 0) :: I) :: G)).length ≤ 20000 := by
      rw [cStk_cons (m' := m') (d' := d'), List.length_append]
      show 1 + _ ≤ _
      omega
    obtain ⟨t4, r1, r2, r3, r4⟩ := CX.store (N := N) (X := X) (m' := j + 1) (d' := 0) H3 hl3 hG hr hvs
    have est : cf_142 N X 2 (cv rr) pl (jI t3 49 17 (Int32.ofNat (posC code j + 1 + 1))) = some (t4, .inl none) := by
      have := c_mv2 (N := N) (X := X) (g := cv rr) (q := pl) (t := jI t3 49 17 (Int32.ofNat (posC code j + 1 + 1)))
      have this : cf_142 N X 2 (cv rr) pl (jI t3 49 17 (Int32.ofNat (posC code j + 1 + 1))) = _ := this
      rw [this]
      unfold cf_142_152 cf_142_157 cf_142_296
      simp (disch := omega) only [ev_S, ev_C, ↓reduceIte, Nat.reduceEqDiff, Nat.reduceLeDiff, Nat.reduceAdd, Nat.reduceMul, Nat.reduceSub, reduceCtorEq, l32_0, l32_1, l32_2, l32_3, l32_4, l32_5, l32_6, l32_7, l32_8, l32_9, l32_10, l32_11, l32_12, l32_13, l32_14, l32_15, l32_16, l32_17, l32_18, l32_19, l32_20, l32_21, l32_22, l32_23, l32_24, l32_25, l32_26, l32_27, l32_28, l32_29, l32_33, l32_40, l32_41, l32_44, l32_45, l32_59, l32_61, l32_91, l32_93, l32_123, l32_125, r1]
    refine ⟨t4, fun Q i hi => ?_, r2, ?_⟩
    · rw [show Q + 2 = Q + 1 + 1 from rfl, c_fet (N := N) (X := X) (F := Q + 1) hE1 hcx hg1 (by omega) hn1 p0 p1, c_rdM (by decide) (by decide) eon]
      rw [c_fet (N := N) (X := X) (F := Q) s2.1.1 hcx s2.1.2.2.2.2.1 (by omega) s3' p2 p3, c_rdM (by decide) (by decide) est]
    · rw [r3, posC_s hm]
      show Int32.ofNat (posC code j + 1 + 1) = _
      rw [show clen (inA code j) = 2 by unfold clen; rw [h25]; rfl]
  · have e240 : cf_240 N X tB = some (tB, .inl (some (.int (Int32.ofNat 1)))) := by
      unfold cf_240 cf_240_0 cf_240_10 cf_240_15
      simp (disch := omega) only [ev_S, ev_C, ↓reduceIte, Nat.reduceEqDiff, Nat.reduceLeDiff, Nat.reduceAdd, Nat.reduceMul, Nat.reduceSub, reduceCtorEq, l32_0, l32_1, l32_2, l32_3, l32_4, l32_5, l32_6, l32_7, l32_8, l32_9, l32_10, l32_11, l32_12, l32_13, l32_14, l32_15, l32_16, l32_17, l32_18, l32_19, l32_20, l32_21, l32_22, l32_23, l32_24, l32_25, l32_26, l32_27, l32_28, l32_29, l32_33, l32_40, l32_41, l32_44, l32_45, l32_59, l32_61, l32_91, l32_93, l32_123, l32_125, hB3, hgt, l32_3000]
    refine ⟨_, tB, fun Q i hi => ?_, HB, rfl⟩
    have ef := c_fallE (N := N) (X := X) (t := tB) (k := 11) (q := pl) (r := Int32.ofNat 0) (Or.inl (by omega)) (by omega)
    have eon : cf_142 N X 12 0 pl (jI t1 49 17 (Int32.ofNat (posC code j + 1))) = some (jI (tol tB (Int32.ofNat 11) pl (Int32.ofNat 0)) 49 18 (Int32.ofNat 0), .inl none) := by
      have := c_mv12 (N := N) (X := X) (g := 0) (q := pl) (t := jI t1 49 17 (Int32.ofNat (posC code j + 1)))
      have this : cf_142 N X 12 0 pl (jI t1 49 17 (Int32.ofNat (posC code j + 1))) = _ := this
      rw [this]
      have eth := c_thing (N := N) (X := X) (t := tB) (k := Int32.ofNat 0) (a := tkV k r)
      unfold cf_142_273 cf_142_278 cf_142_296 cf_155 cf_155_0 cf_155_8 cf_155_11 cf_155_19 cf_155_22 cf_155_30 cf_155_38
      simp (disch := omega) only [ev_S, ev_C, ↓reduceIte, Nat.reduceEqDiff, Nat.reduceLeDiff, Nat.reduceAdd, Nat.reduceMul, Nat.reduceSub, reduceCtorEq, l32_0, l32_1, l32_2, l32_3, l32_4, l32_5, l32_6, l32_7, l32_8, l32_9, l32_10, l32_11, l32_12, l32_13, l32_14, l32_15, l32_16, l32_17, l32_18, l32_19, l32_20, l32_21, l32_22, l32_23, l32_24, l32_25, l32_26, l32_27, l32_28, l32_29, l32_33, l32_40, l32_41, l32_44, l32_45, l32_59, l32_61, l32_91, l32_93, l32_123, l32_125, etake, eth, e240, ef]
    rw [show Q + 2 = Q + 1 + 1 from rfl, c_fet (N := N) (X := X) (F := Q + 1) hE1 hcx hg1 (by omega) hn1 p0 p1, c_rdM (by decide) (by decide) eon]
    exact c_off rfl (by omega)
end TAK
end
