/-! ===== PURE: run (84): the class's acts upon the picture ===== -/
/-- the picture without the place -/
def CX (t0 t : cS) (p : Nat) (code : List Ins) (Fs : List Fn) (fu : Nat) (S0 : Nat → Option Nod) (u w : Nat) (F : List Fm) (sh : Nat → Option Nod) (T : Ty) (out : List Int32) : Prop := CB t0 t p code Fs fu T out ∧ CM0 t u code F sh S0 ∧ cHp t u w ∧ kI t 49 8 = Int32.ofNat (cStk F).length
/-- what an operation gave -/
def cAn (t' : cS) (u u' : Nat) (v : Int64) : Ans → Prop
  | .inl k => v = rf (Int32.ofNat k) ∧ u' ≤ u + 2100
  | .inr x => cN (cel t') u' v x ∧ u' ≤ u + 20 * ctV (vw x) ∧ wfN x ∧ x.1 ≤ 4
section CXP
variable {N : Nat} {X : Nat → Option zz_C} {t0 t t' : cS} {u u' w w' p fu m m' d d' k : Nat} {code : List Ins} {Fs : List Fn} {T : Ty} {out : List Int32} {F : List Fm} {sh S0 : Nat → Option Nod} {vs : List (Option Nod)} {I J : List It} {it : It} {v : Int64} {o : Option Nod} {z : Int32} {a b : Fm} {l : List (Option Nod)}
theorem cFr.ji {x y : Nat} (h : cFr t code F) : cFr (jI t x y z) code F := cFr.keep (t := t) (t' := jI t x y z) rfl rfl h
/-- another place serves -/
theorem CX.at (h : CX t0 t p code Fs fu S0 u w ((m, d, vs, I) :: F) sh T out) : CX t0 t p code Fs fu S0 u w ((m', d', vs, I) :: F) sh T out := h
theorem CX.pc {f : Nat} (h : CX t0 t p code Fs fu S0 u w F sh T out) (hf : f = 17 ∨ f = 16) : CX t0 (jI t 49 f z) p code Fs fu S0 u w F sh T out := by
  obtain ⟨h1, h2, h3, h4⟩ := h
  refine ⟨h1.I (by omega), ?_, h3.I (by decide), ?_⟩
  · obtain ⟨a1, a2, a3, a4, a5, a6, a7, a8⟩ := h2
    refine ⟨a1, cFr.ji a2, a3, a4, a5, a6, ?_, ?_⟩
    · show (if 49 = 49 ∧ 11 = f then z else kI t 49 11) = _
      rw [if_neg (by omega)]
      exact a7
    · show (if 49 = 49 ∧ 15 = f then z else kI t 49 15) = _
      rw [if_neg (by omega)]
      exact a8
  · show (if 49 = 49 ∧ 8 = f then z else kI t 49 8) = _
    rw [if_neg (by omega)]
    exact h4
theorem tIt_cons {b d : Nat} (h : ¬ it.1 = 3) : tIt b d (it :: I) = tIt b d I := if_neg h
theorem tStk_cons (h : ¬ it.1 = 3) : tStk ((m, d, vs, it :: I) :: F) = tStk ((m', d', vs, I) :: F) := by
  show tIt _ _ (it :: I) ++ _ = _
  rw [tIt_cons h]
  rfl
theorem cIt_cons : cIt (it :: I) = iC it ++ cIt I := List.flatMap_cons
theorem rIt_cons : rIt (it :: I) = iR it ++ rIt I := List.flatMap_cons
theorem cStk_cons : cStk ((m, d, vs, it :: I) :: F) = iC it ++ cStk ((m', d', vs, I) :: F) := by
  show cIt (it :: I) ++ _ = _
  rw [cIt_cons, List.append_assoc]
  rfl
theorem rStk_cons : rStk ((m, d, vs, it :: I) :: F) = iR it ++ rStk ((m', d', vs, I) :: F) := by
  show rIt (it :: I) ++ _ = _
  rw [rIt_cons, List.append_assoc]
  rfl
/-- a long is laid on the stack -/
theorem CX.push (h : CX t0 t p code Fs fu S0 u w ((m, d, vs, I) :: F) sh T out) (hl : (cStk ((m, d, vs, I) :: F)).length ≤ 20000) (hv : cC (cel t) u v o) (hk : ¬ it.1 = 3) (hi : iC it = [o]) : ∃ t', cf_165 N X v t = some (t', .inl none) ∧ CX t0 t' p code Fs fu S0 u w ((m', d', vs, it :: I) :: F) sh T out ∧ kI t' 49 17 = kI t 49 17 ∧ cel t' = cel t := by
  obtain ⟨h1, h2, h3, h4⟩ := h
  obtain ⟨t', a1, a2, a3, a4, a5⟩ := c_push (N := N) (X := X) h3 h2.1 h4 hl hv
  have e : cStk ((m', d', vs, it :: I) :: F) = o :: cStk ((m, d, vs, I) :: F) := by
    rw [cStk_cons (m' := m) (d' := d), hi]
    rfl
  refine ⟨t', a1, ⟨h1.P a4, h2.stk a4 (fun f q => by have := q.2; omega) (fun k q => q) (by rw [e]; exact a2) (tStk_cons hk), a5, by rw [e]; exact a3⟩, a4.1 49 17 (by omega), ?_⟩
  have := (a4.2.2.2.1 43 (by decide) (by decide)).2.1
  unfold cel
  rw [this]
theorem CX.lower (h : CX t0 t p code Fs fu S0 u w (a :: F) sh T out) (hc : cStk (a :: F) = l ++ cStk (b :: F)) (ht : tStk (b :: F) = tStk (a :: F)) : CX t0 (jI t 49 8 (Int32.ofNat (cStk (b :: F)).length)) p code Fs fu S0 u w (b :: F) sh T out := by
  obtain ⟨h1, h2, h3, h4⟩ := h
  have g : gf (fun k f => k = 49 ∧ f = 8) (fun _ => False) t (jI t 49 8 (Int32.ofNat (cStk (b :: F)).length)) := gf_I
  refine ⟨h1.I (by omega), h2.stk g (fun f q => by have := q.2; omega) (fun k q => q.elim) ?_ ht, h3.I (by decide), rfl⟩
  have hs := h2.1
  rw [hc] at hs
  exact hs.app
/-- one is taken off -/
theorem CX.pop (h : CX t0 t p code Fs fu S0 u w ((m, d, vs, it :: I) :: F) sh T out) (hl : (cStk ((m, d, vs, it :: I) :: F)).length ≤ 20000) (hk : ¬ it.1 = 3) (hi : iC it = [o]) : ∃ t' v, cf_166 N X t = some (t', .inl (some (.long v))) ∧ cC (cel t) u v o ∧ CX t0 t' p code Fs fu S0 u w ((m', d', vs, I) :: F) sh T out ∧ kI t' 49 17 = kI t 49 17 ∧ cel t' = cel t := by
  have e : cStk ((m, d, vs, it :: I) :: F) = o :: cStk ((m', d', vs, I) :: F) := by
    rw [cStk_cons (m' := m') (d' := d'), hi]
    rfl
  have h4 := h.2.2.2
  have hs := h.2.1.1
  rw [e] at h4 hs hl
  obtain ⟨v, a1, a2, a3⟩ := c_pop (N := N) (X := X) hs h4 (by simp only [List.length_cons] at hl; omega)
  exact ⟨_, v, a1, a2, CX.lower (l := [o]) h (by rw [e]; rfl) (tStk_cons hk).symm, rfl, rfl⟩
theorem CX.peek (h : CX t0 t p code Fs fu S0 u w F sh T out) (h1 : 1 ≤ k) (h2 : k ≤ (cStk F).length) : ∃ v, cf_167 N X (Int32.ofNat k) t = some (t, .inl (some (.long v))) ∧ cC (cel t) u v ((cStk F)[k - 1]'(by omega)) := c_peek h.2.1.1 h.2.2.2 h1 h2
/-- a look at the value on top -/
theorem CX.top1 (h : CX t0 t p code Fs fu S0 u w F sh T out) (e : cStk F = o :: l) : ∃ v, cf_167 N X (Int32.ofNat 1) t = some (t, .inl (some (.long v))) ∧ cC (cel t) u v o := by
  obtain ⟨v, a1, a2⟩ := h.peek (N := N) (X := X) (k := 1) (Nat.le_refl _) (by rw [e]; exact Nat.succ_le_succ (Nat.zero_le _))
  refine ⟨v, a1, ?_⟩
  simp only [e] at a2
  exact a2
theorem CX.top2 {o' : Option Nod} (h : CX t0 t p code Fs fu S0 u w F sh T out) (e : cStk F = o' :: o :: l) : ∃ v, cf_167 N X (Int32.ofNat 2) t = some (t, .inl (some (.long v))) ∧ cC (cel t) u v o := by
  obtain ⟨v, a1, a2⟩ := h.peek (N := N) (X := X) (k := 2) (by omega) (by rw [e]; simp only [List.length_cons]; omega)
  refine ⟨v, a1, ?_⟩
  simp only [e] at a2
  exact a2
/-- the heap was worked upon -/
theorem CX.op {r : Ans} (h : CX t0 t p code Fs fu S0 u w F sh T out) (hF : cF t t' u v r) : ∃ u' w', CX t0 t' p code Fs fu S0 u' w' F sh T out ∧ kI t' 49 17 = kI t 49 17 ∧ u ≤ u' ∧ (∀ y, y < u → cel t' y = cel t y) ∧ cAn t' u u' v r := by
  obtain ⟨h1, h2, h3, h4⟩ := h
  obtain ⟨u', w', b1, b2, b3, b4, b5⟩ := hF
  refine ⟨u', w', ⟨h1.W b2, h2.hp b2 b3 b4, b1, ?_⟩, b2.1 49 17 (by omega) (by omega), b3, b4, by cases r <;> exact b5⟩
  rw [b2.1 49 8 (by omega) (by omega)]
  exact h4
/-- the parts gathered are forgotten -/
theorem CX.forget (h : CX t0 t p code Fs fu S0 u w F sh T out) : cf_121 N X t = some (jI t 42 3 (Int32.ofNat 0), .inl none) ∧ CX t0 (jI t 42 3 (Int32.ofNat 0)) p code Fs fu S0 u 0 F sh T out := by
  obtain ⟨h1, h2, h3, h4⟩ := h
  refine ⟨rfl, h1.keep (gf_I (a := 42) (b := 3)) (fun k f q => Or.inl q.1) (fun k q => q.elim), ?_, ?_, h4⟩
  · obtain ⟨a1, a2, a3, a4, a5, a6, a7, a8⟩ := h2
    exact ⟨a1, cFr.ji a2, a3, a4, a5, a6, a7, a8⟩
  · obtain ⟨a1, a2, a3, a4, a5⟩ := h3
    exact ⟨a1, rfl, a3, Nat.zero_le _, a5⟩
theorem CX.st (h : CX t0 t p code Fs fu S0 u w F sh T out) : CX t0 (jI t 48 2 (Int32.ofNat (T.1 + 1))) p code Fs fu S0 u w F sh (T.1 + 1, T.2) out := by
  obtain ⟨h1, h2, h3, h4⟩ := h
  obtain ⟨a1, a2, a3, a4, a5, a6, a7, a8⟩ := h2
  exact ⟨h1.st, ⟨a1, cFr.ji a2, a3, a4, a5, a6, a7, a8⟩, h3.I (by decide), h4⟩
end CXP
