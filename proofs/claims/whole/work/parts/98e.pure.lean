/-! ===== PURE: run (82): the class's side of the picture ===== -/
/-- what a run may change -/
abbrev eR : Nat → Nat → Prop := fun k f => k = 42 ∨ k = 45 ∨ (k = 48 ∧ ¬ f = 0) ∨ k = 49 ∨ k = 58
abbrev aR : Nat → Prop := fun k => 43 ≤ k ∧ k ≤ 60
/-- all but stacks and heap -/
def CB (t0 t : cS) (p : Nat) (code : List Ins) (Fs : List Fn) (fu : Nat) (T : Ty) (out : List Int32) : Prop := cEv t p code Fs ∧ cTy t fu T ∧ (kI t 48 6 = Int32.ofNat 0 ∧ kI t 48 7 = -Int32.ofNat 1 ∧ kI t 48 8 = Int32.ofNat 0) ∧ cOut t out ∧ kI t 49 18 = Int32.ofNat 1 ∧ gf eR aR t0 t
section CBK
variable {N : Nat} {X : Nat → Option zz_C} {t0 t t' : cS} {u u' w p fu m : Nat} {code : List Ins} {Fs : List Fn} {T : Ty} {out : List Int32} {F F' : List Fm} {sh S0 : Nat → Option Nod} {E : Nat → Nat → Prop} {A : Nat → Prop} {a b : Fm}
theorem cEv.keep (h : cEv t p code Fs) (g : gf E A t t') (h1 : ∀ f, ¬ E 12 f ∧ ¬ E 21 f) (h2 : ∀ k, 13 ≤ k → k ≤ 29 → ¬ A k) : cEv t' p code Fs := by
  obtain ⟨a1, a2, ⟨b1, b2, b3, b4, b5, b6, b7⟩, ⟨c1, c2, c3, c4, c5, c6, c7, c8, c9⟩⟩ := h
  obtain ⟨g1, g2, g3, g4, -⟩ := g
  have eI : ∀ f, kI t' p f = kI t p f := fun f => g1 p f (by rcases a2 with z | z <;> rw [z]; exact (h1 f).1; exact (h1 f).2)
  have eA : ∀ d, 1 ≤ d → d ≤ 8 → kA t' (p + d) = kA t (p + d) ∧ kB t' (p + d) = kB t (p + d) := fun d d1 d2 => by
    have := g4 (p + d) (h2 (p + d) (by omega) (by omega)) (by omega)
    exact ⟨this.1, this.2.1⟩
  have r1 := eA 1 (by omega) (by omega)
  have r2 := eA 2 (by omega) (by omega)
  have r3 := eA 3 (by omega) (by omega)
  have r4 := eA 4 (by omega) (by omega)
  have r5 := eA 5 (by omega) (by omega)
  have r6 := eA 6 (by omega) (by omega)
  have r7 := eA 7 (by omega) (by omega)
  have r8 := eA 8 (by omega) (by omega)
  unfold cEv cPg cFt
  rw [g3, eI 3, eI 4, r1.1, r2.1, r3.1, r4.2, r5.1, r6.1, r7.1, r8.1]
  exact ⟨a1, a2, ⟨b1, b2, b3, b4, b5, b6, b7⟩, ⟨c1, c2, c3, c4, c5, c6, c7, c8, c9⟩⟩
theorem cOut.keep2 (h : cOut t out) (g : gf E A t t') (h1 : ¬ E 45 1) (h2 : ¬ A 46) (h3 : ¬ A 47) : cOut t' out := by
  obtain ⟨a1, a2, a3, a4, a5, a6, a7⟩ := h
  have e1 := (g.2.2.2.1 46 h2 (by decide)).1
  have e2 := (g.2.2.2.1 47 h3 (by decide)).1
  have hr : rmK t' := by
    obtain ⟨r1, r2⟩ := a7
    refine ⟨?_, by rw [e1]; exact r2⟩
    have := g.2.2.2.2.2.2.2.1
    have := g.2.2.2.2.2.2.1
    omega
  unfold cOut
  rw [g.1 45 1 h1, e1, e2]
  exact ⟨a1, a2, a3, a4, a5, a6, hr⟩
theorem CB.keep (h : CB t0 t p code Fs fu T out) (g : gf E A t t') (h1 : ∀ k f, E k f → (k = 42 ∨ k = 58 ∨ (k = 49 ∧ ¬ f = 18))) (h2 : ∀ k, A k → 43 ≤ k ∧ k ≤ 60 ∧ ¬ k = 46 ∧ ¬ k = 47) : CB t0 t' p code Fs fu T out := by
  obtain ⟨a1, ⟨b1, b2, b3, b4, b5⟩, ⟨c1, c2, c3⟩, a4, a5, a6⟩ := h
  have n48 : ∀ f, ¬ E 48 f := fun f q => by have := h1 48 f q; omega
  refine ⟨a1.keep g (fun f => ⟨fun q => by have := h1 12 f q; omega, fun q => by have := h1 21 f q; omega⟩) (fun k k1 k2 q => by have := h2 k q; omega), ?_, ?_, a4.keep2 g (fun q => by have := h1 45 1 q; omega) (fun q => by have := h2 46 q; omega) (fun q => by have := h2 47 q; omega), ?_, ?_⟩
  · unfold cTy
    rw [g.1 48 1 (n48 1), g.1 48 2 (n48 2), g.1 48 3 (n48 3), g.1 48 4 (n48 4), g.1 48 5 (n48 5)]
    exact ⟨b1, b2, b3, b4, b5⟩
  · rw [g.1 48 6 (n48 6), g.1 48 7 (n48 7), g.1 48 8 (n48 8)]
    exact ⟨c1, c2, c3⟩
  · rw [g.1 49 18 (fun q => by have := h1 49 18 q; omega)]
    exact a5
  · exact a6.tr2 (g.mono2 (fun k f q => by have := h1 k f q; show k = 42 ∨ k = 45 ∨ (k = 48 ∧ ¬ f = 0) ∨ k = 49 ∨ k = 58; omega) (fun k q => by have := h2 k q; show 43 ≤ k ∧ k ≤ 60; omega))
theorem CB.I {f : Nat} {z : Int32} (h : CB t0 t p code Fs fu T out) (hf : ¬ f = 18) : CB t0 (jI t 49 f z) p code Fs fu T out := h.keep gf_I (fun k q r => Or.inr (Or.inr ⟨r.1, fun e => hf (r.2.symm.trans e)⟩)) (fun k q => q.elim)
theorem CB.P (h : CB t0 t p code Fs fu T out) (g : gf e8 a52 t t') : CB t0 t' p code Fs fu T out := h.keep g (fun k f r => Or.inr (Or.inr ⟨r.1, by have := r.2; omega⟩)) (fun k (q : k = 52) => by omega)
theorem CB.W (h : CB t0 t p code Fs fu T out) (g : hfw t t') : CB t0 t' p code Fs fu T out := h.keep g.gf (fun k f r => by omega) (fun k q => by omega)
/-- one step more -/
theorem CB.st (h : CB t0 t p code Fs fu T out) : CB t0 (jI t 48 2 (Int32.ofNat (T.1 + 1))) p code Fs fu (T.1 + 1, T.2) out := by
  obtain ⟨a1, ⟨b1, b2, b3, b4, b5⟩, ⟨c1, c2, c3⟩, a4, a5, a6⟩ := h
  have g : gf (fun k f => k = 48 ∧ f = 2) (fun _ => False) t (jI t 48 2 (Int32.ofNat (T.1 + 1))) := gf_I
  exact ⟨a1.keep g (fun f => ⟨fun q => by omega, fun q => by omega⟩) (fun k k1 k2 q => q), ⟨b1, rfl, b3, b4, b5⟩, ⟨c1, c2, c3⟩, a4.keep2 g (fun q => by omega) (fun q => q) (fun q => q), a5, a6.tr2 (g.mono2 (fun k f q => by show k = 42 ∨ k = 45 ∨ (k = 48 ∧ ¬ f = 0) ∨ k = 49 ∨ k = 58; omega) (fun k q => q.elim))⟩
theorem cFr.keep (h1 : kA t' 53 = kA t 53) (h2 : kA t' 54 = kA t 54) : ∀ {F : List Fm}, cFr t code F → cFr t' code F
  | [], _ => trivial
  | _ :: F, h => by
    refine ⟨?_, ?_, cFr.keep h1 h2 h.2.2⟩
    · rw [h1]; exact h.1
    · rw [h2]; exact h.2.1
/-- the class's part, with another stack: the tries as they were -/
theorem CM0.stk (h : CM0 t u code (a :: F) sh S0) (g : gf E A t t') (h1 : ∀ f, E 49 f → ¬ f = 11 ∧ ¬ f = 15) (h2 : ∀ k, A k → k = 52) (hs : cSk t' u (cStk (b :: F))) (ht : tStk (b :: F) = tStk (a :: F)) : CM0 t' u code (b :: F) sh S0 := by
  obtain ⟨a1, a2, a3, a4, a5, a6, a7, a8⟩ := h
  have e : ∀ k, ¬ k = 52 → ¬ k = 111 → kA t' k = kA t k ∧ kB t' k = kB t k := fun k k1 k2 => by
    have := g.2.2.2.1 k (fun q => k1 (h2 k q)) k2
    exact ⟨this.1, this.2.1⟩
  have n11 : ¬ E 49 11 := fun q => (h1 11 q).1 rfl
  have n15 : ¬ E 49 15 := fun q => (h1 15 q).2 rfl
  unfold CM0 cel
  rw [ht, (e 55 (by omega) (by omega)).1, (e 56 (by omega) (by omega)).1, (e 57 (by omega) (by omega)).1, (e 53 (by omega) (by omega)).1, (e 54 (by omega) (by omega)).1, (e 50 (by omega) (by omega)).2, (e 51 (by omega) (by omega)).1, (e 60 (by omega) (by omega)).1, (e 43 (by omega) (by omega)).2, g.1 49 11 n11, g.1 49 15 n15]
  exact ⟨hs, cFr.keep (e 53 (by omega) (by omega)).1 (e 54 (by omega) (by omega)).1 (F := a :: F) a2, a3, a4, a5, a6, a7, a8⟩
/-- after something was done upon the heap -/
theorem CM0.hp (h : CM0 t u code F sh S0) (g : hfw t t') (hu : u ≤ u') (hc : ∀ y, y < u → cel t' y = cel t y) : CM0 t' u' code F sh S0 := by
  obtain ⟨a1, a2, a3, a4, a5, a6, a7, a8⟩ := h
  have e : ∀ k, ¬ k = 43 → ¬ k = 44 → ¬ k = 60 → ¬ k = 111 → kA t' k = kA t k ∧ kB t' k = kB t k := fun k k1 k2 k3 k4 => by
    have := g.2.2.2.1 k k1 k2 k4
    exact ⟨this.1 k3, this.2.1⟩
  have e60 := g.2.2.2.2.2.2.2.2.2
  refine ⟨?_, cFr.keep (e 53 (by omega) (by omega) (by omega) (by omega)).1 (e 54 (by omega) (by omega) (by omega) (by omega)).1 a2, ?_, ?_, ?_, ?_, ?_, ?_⟩
  · unfold cSk
    rw [(e 52 (by omega) (by omega) (by omega) (by omega)).2]
    exact ⟨a1.1.mono (fun _ _ _ z => cC.mono hc hu z) (fun _ _ => rfl), a1.2⟩
  · rw [(e 55 (by omega) (by omega) (by omega) (by omega)).1, (e 56 (by omega) (by omega) (by omega) (by omega)).1, (e 57 (by omega) (by omega) (by omega) (by omega)).1]
    exact a3
  · rw [(e 53 (by omega) (by omega) (by omega) (by omega)).1, (e 54 (by omega) (by omega) (by omega) (by omega)).1, (e 50 (by omega) (by omega) (by omega) (by omega)).2, (e 51 (by omega) (by omega) (by omega) (by omega)).1, e60]
    exact a4
  · rw [(e 55 (by omega) (by omega) (by omega) (by omega)).1, (e 56 (by omega) (by omega) (by omega) (by omega)).1, (e 57 (by omega) (by omega) (by omega) (by omega)).1]
    exact a5
  · rw [(e 50 (by omega) (by omega) (by omega) (by omega)).2, (e 51 (by omega) (by omega) (by omega) (by omega)).1]
    exact fun i hi => ⟨cC.mono hc hu (a6 i hi).1, (a6 i hi).2⟩
  · rw [g.1 49 11 (by omega) (by omega)]; exact a7
  · rw [g.1 49 15 (by omega) (by omega)]; exact a8
end CBK
