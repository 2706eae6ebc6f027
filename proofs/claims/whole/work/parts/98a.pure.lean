/-! ===== PURE: run (78): stacks ===== -/
/-- a list, its last-laid first, lies in an array: P its elements -/
def stk {α β : Type} (P : β → α → Prop) (g : Nat → β) : List α → Prop
  | [] => True
  | x :: l => P (g l.length) x ∧ stk P g l
theorem stk.mono {α β : Type} {P P' : β → α → Prop} {g g' : Nat → β} : ∀ {l : List α}, stk P g l → (∀ v x, x ∈ l → P v x → P' v x) → (∀ i, i < l.length → g' i = g i) → stk P' g' l
  | [], _, _, _ => trivial
  | x :: l, h, hp, hg => by
    refine ⟨?_, stk.mono h.2 (fun v y hy => hp v y (List.mem_cons_of_mem _ hy)) (fun i hi => hg i (Nat.lt_succ_of_lt hi))⟩
    rw [hg l.length (Nat.lt_succ_self _)]
    exact hp _ _ List.mem_cons_self h.1
theorem stk.app {α β : Type} {P : β → α → Prop} {g : Nat → β} : ∀ {l l' : List α}, stk P g (l ++ l') → stk P g l'
  | [], _, h => h
  | _ :: l, l', h => stk.app (l := l) h.2
theorem stk.get {α β : Type} {P : β → α → Prop} {g : Nat → β} : ∀ {l : List α} {i : Nat} (hi : i < l.length), stk P g l → P (g (l.length - 1 - i)) l[i]
  | x :: l, 0, _, h => by
    show P (g (l.length + 1 - 1 - 0)) x
    rw [Nat.sub_zero, Nat.add_sub_cancel]
    exact h.1
  | x :: l, i + 1, hi, h => by
    have hi' : i < l.length := Nat.lt_of_succ_lt_succ hi
    have := stk.get hi' h.2
    show P (g (l.length + 1 - 1 - (i + 1))) l[i]
    rw [show l.length + 1 - 1 - (i + 1) = l.length - 1 - i by omega]
    exact this
/-- one of them is laid anew -/
theorem stk.upd {α β : Type} {P : β → α → Prop} {g g' : Nat → β} {v : β} {y : α} : ∀ {l : List α} {i : Nat} (hi : i < l.length), stk P g l → P v y → (∀ j, g' j = if j = l.length - 1 - i then v else g j) → stk P g' (l.set i y)
  | x :: l, 0, _, h, hv, hg => by
    refine ⟨?_, h.2.mono (fun _ _ _ z => z) (fun j hj => ?_)⟩
    · rw [hg, if_pos (by show l.length = l.length + 1 - 1 - 0; omega)]
      exact hv
    · rw [hg, if_neg (by show ¬ j = l.length + 1 - 1 - 0; omega)]
  | x :: l, i + 1, hi, h, hv, hg => by
    have hi' : i < l.length := Nat.lt_of_succ_lt_succ hi
    refine ⟨?_, stk.upd hi' h.2 hv (fun j => ?_)⟩
    · rw [hg, List.length_set, if_neg (by show ¬ l.length = l.length + 1 - 1 - (i + 1); omega)]
      exact h.1
    · rw [hg, show (x :: l).length - 1 - (i + 1) = l.length - 1 - i by show l.length + 1 - 1 - (i + 1) = _; omega]
/-- nothing -/
def bare : Int64 := tg (-1) 0
/-- what a long of the class's stack is -/
def cC (g : Nat → Int64) (u : Nat) (v : Int64) : Option Nod → Prop
  | none => v = bare
  | some x => cN g u v x
/-- the class's stack has l -/
def cSk (t : cS) (u : Nat) (l : List (Option Nod)) : Prop := stk (cC (cel t) u) (kB t 52).2 l ∧ l.length ≤ (kB t 52).1 ∧ 1 ≤ (kB t 52).1 ∧ (kB t 52).1 ≤ 40000
abbrev e8 : Nat → Nat → Prop := fun k f => k = 49 ∧ f = 8
abbrev a52 : Nat → Prop := fun k => k = 52
section CST
variable {N : Nat} {X : Nat → Option zz_C} {t t' t'' : cS} {u w u' w' n k : Nat} {v : Int64} {o : Option Nod} {l : List (Option Nod)} {E : Nat → Nat → Prop} {A : Nat → Prop} {x : Nod}
theorem cC.mono {g g' : Nat → Int64} (hg : ∀ y, y < u → g' y = g y) (hu : u ≤ u') (h : cC g u v o) : cC g' u' v o := by
  cases o with
  | none => exact h
  | some x => exact cN.mono hg hu h
theorem cSk.keep (h : cSk t u l) (g : gf E A t t') (h1 : ¬ A 43) (h2 : ¬ A 52) : cSk t' u l := by
  have e1 := (g.2.2.2.1 52 h2 (by decide)).2.1
  have e2 := (g.2.2.2.1 43 h1 (by decide)).2.1
  unfold cSk cel
  rw [e1, e2]
  exact h
theorem gf.hp (g : gf E A t t') (h : cHp t u w) (h1 : ¬ E 42 1) (h2 : ¬ E 42 3) (h3 : ¬ A 43) (h4 : ¬ A 44) (h5 : ¬ A 46) : cHp t' u w := by
  obtain ⟨a1, a2, a3, a4, a5, a6, a7, a8, a9, a10⟩ := h
  obtain ⟨g1, g2, g3, g4, g5, g6, g7, g8, g9⟩ := g
  have e1 := (g4 43 h3 (by decide)).2.1
  have e2 := (g4 44 h4 (by decide)).2.1
  have e3 := (g4 46 h5 (by decide)).1
  unfold cHp rmK
  rw [g1 42 1 h1, g1 42 3 h2, e1, e2, e3]
  exact ⟨a1, a2, a3, a4, a5, a6, a7, a8, by omega, a10⟩
theorem gf.tr2 (g : gf E A t t') (g' : gf E A t' t'') : gf E A t t'' := by
  obtain ⟨a1, a2, a3, a4, a5, a6, a7, a8, a9⟩ := g
  obtain ⟨b1, b2, b3, b4, b5, b6, b7, b8, b9⟩ := g'
  exact ⟨fun k f r => (b1 k f r).trans (a1 k f r), b2.trans a2, b3.trans a3, fun k r1 r2 => ⟨(b4 k r1 r2).1.trans (a4 k r1 r2).1, (b4 k r1 r2).2.1.trans (a4 k r1 r2).2.1, (b4 k r1 r2).2.2.trans (a4 k r1 r2).2.2⟩, b5.trans a5, b6.trans a6, Nat.le_trans a7 b7, by omega, by omega⟩
theorem gf.mono2 {E' : Nat → Nat → Prop} {A' : Nat → Prop} (g : gf E A t t') (hE : ∀ k f, E k f → E' k f) (hA : ∀ k, A k → A' k) : gf E' A' t t' := ⟨fun k f r => g.1 k f (fun q => r (hE k f q)), g.2.1, g.2.2.1, fun k r1 r2 => g.2.2.2.1 k (fun q => r1 (hA k q)) r2, g.2.2.2.2⟩
theorem gf.rf2 : gf E A t t := ⟨fun _ _ _ => rfl, rfl, rfl, fun _ _ _ => ⟨rfl, rfl, rfl⟩, rfl, rfl, Nat.le_refl _, Nat.le_refl _, Nat.le_refl _⟩
theorem gf_I {a b : Nat} {z : Int32} : gf (fun k f => k = a ∧ f = b) (fun _ => False) t (jI t a b z) := ⟨fun k f r => if_neg r, rfl, rfl, fun _ _ _ => ⟨rfl, rfl, rfl⟩, rfl, rfl, Nat.le_refl _, Nat.le_refl _, Nat.le_refl _⟩
/-- a value is laid on the class's stack -/
theorem c_push (hh : cHp t u w) (hs : cSk t u l) (h8 : kI t 49 8 = Int32.ofNat l.length) (hl : l.length ≤ 20000) (hv : cC (cel t) u v o) : ∃ t', cf_165 N X v t = some (t', .inl none) ∧ cSk t' u (o :: l) ∧ kI t' 49 8 = Int32.ofNat (l.length + 1) ∧ gf e8 a52 t t' ∧ cHp t' u w := by
  obtain ⟨s1, s2, s3, s4⟩ := hs
  have hk := hh.2.2.2.2.2.2.2.2
  have hk9 := hk.k
  have key : ∀ t', cf_165 N X v t = some (t', .inl none) → gf e8 a52 t t' → kI t' 49 8 = Int32.ofNat (l.length + 1) → (∀ y, y < l.length → (kB t' 52).2 y = (kB t 52).2 y) → (kB t' 52).2 l.length = v → l.length + 1 ≤ (kB t' 52).1 → (kB t' 52).1 ≤ 40000 → ∃ t', cf_165 N X v t = some (t', .inl none) ∧ cSk t' u (o :: l) ∧ kI t' 49 8 = Int32.ofNat (l.length + 1) ∧ gf e8 a52 t t' ∧ cHp t' u w := by
    intro t' a1 a2 a3 a4 a5 a6 a7
    have e2 := (a2.2.2.2.1 43 (by decide) (by decide)).2.1
    have hc : cel t' = cel t := by unfold cel; rw [e2]
    refine ⟨t', a1, ⟨⟨?_, ?_⟩, a6, by omega, a7⟩, a3, a2, a2.hp hh (by unfold e8; omega) (by unfold e8; omega) (by decide) (by decide) (by decide)⟩
    · rw [a5, hc]
      exact hv
    · rw [hc]
      exact s1.mono (fun _ _ _ z => z) a4
  generalize hn : l.length = n at *
  by_cases c : n = (kB t 52).1
  · have hlg := lgc2 (a := (kB t 52).1) (b := 2 * n) s3 (by omega) (by omega)
    have hm : Nat.min n (2 * n) = n := Nat.min_eq_left (by omega)
    refine key (jI (jB (jMv (jNL t (2 * n) (kcp 0 (kB t 52).2 n)) 52) 52 (vp_updL (kcp 0 (kB t 52).2 n) n v)) 49 8 (Int32.ofNat (n + 1))) ?_ ⟨fun k f r => if_neg r, rfl, rfl, fun k r1 r2 => ⟨?_, ?_, ?_⟩, rfl, rfl, ?_, ?_, ?_⟩ ?_ ?_ ?_ ?_ ?_
    · have c' : (kB t 52).1 = n := c.symm
      repeat ((first | unfold cf_165 | unfold cf_165_0 | unfold cf_165_12 | unfold cf_165_29); try simp (disch := omega) only [ev_S, ev_C, ↓reduceIte, Nat.reduceEqDiff, Nat.reduceLeDiff, Nat.reduceAdd, Nat.reduceMul, Nat.reduceSub, reduceCtorEq, l32_0, l32_1, l32_2, l32_3, l32_4, l32_8, l32_49, l32_52, h8, c', hm])
    · show (if k = 52 then kA (jNL t (2 * n) (kcp 0 (kB t 52).2 n)) 111 else kA t k) = _
      exact if_neg r1
    · show (if k = 52 then _ else (if k = 52 then _ else (if k = 111 then _ else kB t k))) = _
      rw [if_neg r1, if_neg r1, if_neg r2]
    · show (if k = 52 then _ else (if k = 111 then _ else kD t k)) = _
      rw [if_neg r1, if_neg r2]
    · show kN t ≤ kN t + 1
      omega
    · show kN t + 1 + pot t ≤ kN t + (lgc (kB t 43).1 + lgc (kB t 44).1 + (kA t 46).1 / 64 + lgc (2 * n) + lgc (kA t 55).1 + lgc (kA t 56).1 + lgc (kA t 57).1)
      unfold pot
      omega
    · show kQ t + 2 * n + poq t ≤ kQ t + (2 * (kB t 43).1 + 2 * (kB t 44).1 + 17 * (kA t 46).1 + 2 * (2 * n) + 2 * (kA t 55).1 + 2 * (kA t 56).1 + 2 * (kA t 57).1)
      unfold poq
      omega
    · rfl
    · intro y hy
      show vp_updL (kcp 0 (kB t 52).2 n) n v y = _
      rw [updL_n (by omega), kcp_lt hy]
    · show vp_updL (kcp 0 (kB t 52).2 n) n v n = _
      exact updL_s
    · show n + 1 ≤ 2 * n
      omega
    · show 2 * n ≤ 40000
      omega
  · have hn2 : n < (kB t 52).1 := by omega
    refine key (jI (jB t 52 (vp_updL (kB t 52).2 n v)) 49 8 (Int32.ofNat (n + 1))) ?_ ⟨fun k f r => if_neg r, rfl, rfl, fun k r1 r2 => ⟨rfl, if_neg r1, rfl⟩, rfl, rfl, Nat.le_refl _, Nat.le_refl _, Nat.le_refl _⟩ rfl ?_ ?_ ?_ ?_
    · repeat ((first | unfold cf_165 | unfold cf_165_0 | unfold cf_165_12 | unfold cf_165_29); try simp (disch := omega) only [ev_S, ev_C, ↓reduceIte, Nat.reduceEqDiff, Nat.reduceLeDiff, Nat.reduceAdd, Nat.reduceMul, Nat.reduceSub, reduceCtorEq, l32_0, l32_1, l32_2, l32_3, l32_4, l32_8, l32_49, l32_52, h8, c])
    · intro y hy
      show vp_updL (kB t 52).2 n v y = _
      rw [updL_n (by omega)]
    · show vp_updL (kB t 52).2 n v n = _
      exact updL_s
    · show n + 1 ≤ (kB t 52).1
      omega
    · exact s4
/-- a value is looked at -/
theorem c_peekA (hs : cSk t u l) (h8 : kI t 49 8 = Int32.ofNat l.length) (h1 : 1 ≤ k) (h2 : k ≤ l.length) : cf_167 N X (Int32.ofNat k) t = some (t, .inl (some (.long ((kB t 52).2 (l.length - k))))) := by
  obtain ⟨s1, s2, s3, s4⟩ := hs
  generalize hn : l.length = n at *
  have sb : Int32.ofNat n - Int32.ofNat k = Int32.ofNat (n - k) := (Int32.ofNat_sub _ _ h2).symm
  have g1 : ¬ k ≤ 0 := by omega
  have g2 : ¬ n < k := by omega
  unfold cf_167 cf_167_0 cf_167_4 cf_167_12 cf_167_31
  simp (disch := omega) only [ev_S, ev_C, ↓reduceIte, Nat.reduceEqDiff, Nat.reduceLeDiff, Nat.reduceAdd, Nat.reduceMul, Nat.reduceSub, reduceCtorEq, l32_0, l32_1, l32_2, l32_3, l32_4, l32_5, l32_6, l32_7, l32_8, l32_9, l32_10, l32_11, l32_12, l32_13, l32_14, l32_15, l32_16, l32_17, l32_18, l32_19, l32_20, l32_21, l32_22, l32_23, l32_24, l32_25, l32_26, l32_27, l32_28, l32_29, l32_33, l32_40, l32_41, l32_44, l32_45, l32_59, l32_61, l32_91, l32_93, l32_123, l32_125, h8, sb, g1, g2]
theorem c_peek (hs : cSk t u l) (h8 : kI t 49 8 = Int32.ofNat l.length) (h1 : 1 ≤ k) (h2 : k ≤ l.length) : ∃ v, cf_167 N X (Int32.ofNat k) t = some (t, .inl (some (.long v))) ∧ cC (cel t) u v (l[k - 1]'(by omega)) := by
  refine ⟨_, c_peekA hs h8 h1 h2, ?_⟩
  have := hs.1.get (i := k - 1) (by omega)
  rw [show l.length - 1 - (k - 1) = l.length - k by omega] at this
  exact this
/-- a value is taken off -/
theorem c_pop (hs : cSk t u (o :: l)) (h8 : kI t 49 8 = Int32.ofNat (l.length + 1)) (hl : l.length ≤ 20000) : ∃ v, cf_166 N X t = some (jI t 49 8 (Int32.ofNat l.length), .inl (some (.long v))) ∧ cC (cel t) u v o ∧ v = (kB t 52).2 l.length := by
  have p := c_peekA (N := N) (X := X) (k := 1) hs h8 (Nat.le_refl _) (by show 1 ≤ l.length + 1; omega)
  have p : cf_167 N X (Int32.ofNat 1) t = some (t, .inl (some (.long ((kB t 52).2 l.length)))) := p
  refine ⟨(kB t 52).2 l.length, ?_, hs.1.1, rfl⟩
  generalize l.length = n at *
  have sb : Int32.ofNat (n + 1) - Int32.ofNat 1 = Int32.ofNat n := by rw [← Int32.ofNat_sub _ _ (by omega)]; rfl
  have g : ¬ n < 0 := by omega
  unfold cf_166 cf_166_0 cf_166_5
  simp (disch := omega) only [ev_S, ev_C, ↓reduceIte, Nat.reduceEqDiff, Nat.reduceLeDiff, Nat.reduceAdd, Nat.reduceMul, Nat.reduceSub, reduceCtorEq, l32_0, l32_1, l32_2, l32_3, l32_4, l32_5, l32_6, l32_7, l32_8, l32_9, l32_10, l32_11, l32_12, l32_13, l32_14, l32_15, l32_16, l32_17, l32_18, l32_19, l32_20, l32_21, l32_22, l32_23, l32_24, l32_25, l32_26, l32_27, l32_28, l32_29, l32_33, l32_40, l32_41, l32_44, l32_45, l32_59, l32_61, l32_91, l32_93, l32_123, l32_125, p, h8, sb, g]
theorem cSk.tl (hs : cSk t u (o :: l)) : cSk t u l := ⟨hs.1.2, by have := hs.2.1; simp only [List.length_cons] at this; omega, hs.2.2⟩
theorem cSk.app {l' : List (Option Nod)} (hs : cSk t u (l' ++ l)) : cSk t u l := ⟨hs.1.app, by have := hs.2.1; rw [List.length_append] at this; omega, hs.2.2⟩
theorem cSk.I {a b : Nat} {z : Int32} (hs : cSk t u l) : cSk (jI t a b z) u l := hs
theorem cHp.I {a b : Nat} {z : Int32} (h : cHp t u w) (hn : ¬ a = 42) : cHp (jI t a b z) u w := gf_I.hp h (fun q => hn q.1.symm) (fun q => hn q.1.symm) (fun q => q) (fun q => q) (fun q => q)
/-- an operation upon the heap leaves the stack -/
theorem cSk.F {r : Ans} {v' : Int64} (hs : cSk t u l) (h : cF t t' u v' r) : ∃ u' w', cHp t' u' w' ∧ u ≤ u' ∧ cSk t' u' l ∧ hfw t t' ∧ (∀ y, y < u → cel t' y = cel t y) := by
  obtain ⟨u', w', h1, h2, h3, h4, h5⟩ := h
  refine ⟨u', w', h1, h3, ?_, h2, h4⟩
  have e := (h2.2.2.2.1 52 (by decide) (by decide) (by decide)).2.1
  unfold cSk
  rw [e]
  exact ⟨hs.1.mono (fun _ _ _ z => cC.mono h4 h3 z) (fun _ _ => rfl), hs.2⟩
theorem hfw.gf (h : hfw t t') : gf (fun k f => (k = 42 ∧ (f = 1 ∨ f = 3)) ∨ (k = 58 ∧ f = 1)) (fun k => k = 43 ∨ k = 44 ∨ k = 60) t t' := ⟨fun k f r => h.1 k f (fun q => r (Or.inl q)) (fun q => r (Or.inr q)), h.2.1, h.2.2.1, fun k r1 r2 => ⟨(h.2.2.2.1 k (fun q => r1 (Or.inl q)) (fun q => r1 (Or.inr (Or.inl q))) r2).1 (fun q => r1 (Or.inr (Or.inr q))), (h.2.2.2.1 k (fun q => r1 (Or.inl q)) (fun q => r1 (Or.inr (Or.inl q))) r2).2⟩, h.2.2.2.2.1, h.2.2.2.2.2.1, h.2.2.2.2.2.2.1, h.2.2.2.2.2.2.2.1, h.2.2.2.2.2.2.2.2.1⟩
end CST
