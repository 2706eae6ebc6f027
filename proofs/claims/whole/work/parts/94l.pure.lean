/-! ===== PURE: load (6): load on both sides ===== -/
/-- the class's program p bears these acts -/
def cPg (t : cS) (p : Nat) (L : List C3) : Prop := kI t p 3 = Int32.ofNat L.length ∧ (∀ i (hi : i < L.length), (kA t (p + 1)).2 i = L[i].1 ∧ (kA t (p + 2)).2 i = L[i].2.1 ∧ (kA t (p + 3)).2 i = L[i].2.2) ∧ (kA t (p + 2)).1 = (kA t (p + 1)).1 ∧ (kA t (p + 3)).1 = (kA t (p + 1)).1 ∧ L.length ≤ (kA t (p + 1)).1 ∧ 1 ≤ (kA t (p + 1)).1 ∧ (kA t (p + 1)).1 < 13000
/-- the reference's orders -/
def rPg (s : mS) (e : Nat) (L : List R5) : Prop := ∀ i (hi : i < L.length), s.2.2.1 23 (ob0 e + i) = L[i].1 ∧ s.2.2.1 24 (ob0 e + i) = L[i].2.1 ∧ s.2.2.1 25 (ob0 e + i) = L[i].2.2.1 ∧ s.2.2.1 26 (ob0 e + i) = L[i].2.2.2.1 ∧ s.2.2.1 27 (ob0 e + i) = L[i].2.2.2.2
/-- its functions -/
def rFp (s : mS) (e : Nat) (code : List Ins) (Fs : List Fn) : Prop := ∀ k (hk : k < Fs.length), s.2.2.1 20 (fb0 e + k) = Int32.ofNat (ob0 e + posR code Fs[k].2.2.2.2.1) ∧ s.2.2.1 18 (fb0 e + k) = Int32.ofNat Fs[k].2.2.1 ∧ s.2.2.1 19 (fb0 e + k) = Int32.ofNat Fs[k].2.2.2.1 ∧ s.2.2.1 17 (fb0 e + k) = Int32.ofNat Fs[k].2.1
/-- a program: all that run needs of it -/
def PGc (code : List Ins) (Fs : List Fn) : Prop := (∀ f ∈ Fs, FOK code f) ∧ (∀ m, m < code.length → ((code.getD m dI).1 = 9 ∨ (code.getD m dI).1 = 10) → ∃ hm : (code.getD m dI).2.1 < Fs.length, Fs[(code.getD m dI).2.1].2.2.1 = (code.getD m dI).2.2.1) ∧ lyo code = some [] ∧ wfC code ∧ cx code < 6500 ∧ rl code + xl code ≤ 1610
/-- both have the program (in the class's p; the reference's half is e) -/
def PGI (t : cS) (s : mS) (p e : Nat) : Prop := ∃ code Fs, (kP t 0 3 = some p ∧ (p = 12 ∨ p = 21) ∧ s.1 12 = Int32.ofNat e ∧ e ≤ 1 ∧ s.1 14 = Int32.ofNat Fs.length) ∧ cPg t p (CA code) ∧ cFt t p Fs.length code Fs ∧ rPg s (1 - e) (RA (1 - e) code) ∧ rFp s (1 - e) code Fs ∧ PGc code Fs
/-- what load needs, and leaves -/
def LI (t : cS) (s : mS) (p p' e : Nat) : Prop := kP t 0 3 = some p ∧ kP t 0 4 = some p' ∧ ((p = 12 ∧ p' = 21) ∨ (p = 21 ∧ p' = 12)) ∧ SZf 12 t ∧ SZf 21 t ∧ rWd s ∧ rWn s ∧ Kd s ∧ s.1 12 = Int32.ofNat e ∧ e ≤ 1
/-- what load leaves alone in the class -/
def gW (t t' : cS) : Prop := (∀ k f, ¬ ((k = 0 ∧ (f = 1 ∨ f = 5 ∨ f = 6)) ∨ k = 2 ∨ k = 3 ∨ k = 12 ∨ k = 21) → kI t' k f = kI t k f) ∧ (∀ k f, ¬ ((k = 0 ∧ (f = 3 ∨ f = 4)) ∨ (k = 2 ∧ f = 1)) → kP t' k f = kP t k f) ∧ (∀ k, ¬ (4 ≤ k ∧ k ≤ 29) → k ≠ 111 → kA t' k = kA t k ∧ kB t' k = kB t k ∧ kD t' k = kD t k) ∧ kM t' = kM t ∧ kH t' = kH t ∧ kN t ≤ kN t' ∧ kN t' + potL t ≤ kN t + potL t' + 1 ∧ kQ t' + poqL t ≤ kQ t + poqL t' + 6
/-- and in the reference -/
def fW2 (s s' : mS) : Prop := (∀ q, ¬ (q = 3 ∨ q = 4 ∨ q = 5 ∨ q = 6 ∨ q = 8 ∨ q = 9 ∨ q = 10 ∨ q = 11 ∨ q = 12 ∨ q = 13 ∨ q = 14 ∨ q = 15 ∨ q = 22 ∨ q = 28 ∨ q = 29 ∨ q = 37 ∨ q = 44 ∨ q = 45 ∨ q = 46) → s'.1 q = s.1 q) ∧ (∀ q, ¬ q = 7 → s'.2.1 q = s.2.1 q) ∧ (∀ q, ¬ (17 ≤ q ∧ q ≤ 43) → s'.2.2.1 q = s.2.2.1 q) ∧ (∀ q, ¬ (q = 16 ∨ q = 21 ∨ q = 33 ∨ q = 42) → s'.2.2.2 q = s.2.2.2 q)
section LOA
variable {N : Nat} {X : Nat → Option zz_C} {t t' t1 t2 : cS} {s s' s1 s2 : mS} {p p' e : Nat} {code : List Ins} {Fs : List Fn}
theorem gW.rf : gW t t := ⟨fun _ _ _ => rfl, fun _ _ _ => rfl, fun _ _ _ => ⟨rfl, rfl, rfl⟩, rfl, rfl, Nat.le_refl _, by omega, by omega⟩
theorem fW2.rf : fW2 s s := ⟨fun _ _ => rfl, fun _ _ => rfl, fun _ _ => rfl, fun _ _ => rfl⟩
theorem gX.W (g : gX (eLd p) (aLd p) t t') (hp : p = 12 ∨ p = 21) : gW t t' := by
  obtain ⟨a1, a2, a3, a4, a5, a6, a7, a8⟩ := g
  refine ⟨fun k f r => a1 k f (fun z => r ?_), fun k f r => a2 k f (fun z => r (Or.inr ⟨z.1, z.2.1⟩)), fun k r1 r2 => a3 k (fun z => r1 ?_) r2, a4, a5, a6, a7, a8⟩
  · rcases hp with y | y <;> subst y <;> omega
  · rcases hp with y | y <;> subst y <;> omega
theorem fJ.W (f : fJ e s s') : fW2 s s' := ⟨fun q r => f.1 q (by omega), f.2.1, fun q r => f.2.2.1 q (by omega), f.2.2.2.1⟩
theorem fW2.tr (h : fW2 s s1) (g : fW2 s1 s2) : fW2 s s2 := ⟨fun q r => (g.1 q r).trans (h.1 q r), fun q r => (g.2.1 q r).trans (h.2.1 q r), fun q r => (g.2.2.1 q r).trans (h.2.2.1 q r), fun q r => (g.2.2.2 q r).trans (h.2.2.2 q r)⟩
/-- the program that stands is left alone -/
theorem PGI.kp (h : PGI t s p e) (k3 : kP t' 0 3 = kP t 0 3) (kI' : ∀ f, kI t' p f = kI t p f) (kA' : ∀ j, 1 ≤ j → j ≤ 8 → kA t' (p + j) = kA t (p + j) ∧ kB t' (p + j) = kB t (p + j)) (s12 : s'.1 12 = s.1 12) (s14 : s'.1 14 = s.1 14) (h1 : ∀ q y, (q = 23 ∨ q = 24 ∨ q = 25 ∨ q = 26 ∨ q = 27) → ob0 (1 - e) ≤ y → y < ob0 (1 - e) + 4000 → s'.2.2.1 q y = s.2.2.1 q y) (h2 : ∀ q y, (q = 17 ∨ q = 18 ∨ q = 19 ∨ q = 20) → fb0 (1 - e) ≤ y → y < fb0 (1 - e) + 12 → s'.2.2.1 q y = s.2.2.1 q y) : PGI t' s' p e := by
  obtain ⟨code, Fs, ⟨a1, a2, a3, a4, a5⟩, ⟨b1, b2, b3, b4, b5, b6, b7⟩, ⟨c1, c2, c3, c4, c5, c6, c7, c8, c9⟩, d1, d2, d3⟩ := h
  have hrl := d3.2.2.2.2.2
  refine ⟨code, Fs, ⟨k3.trans a1, a2, s12.trans a3, a4, s14.trans a5⟩, ⟨(kI' 3).trans b1, ?_, ?_, ?_, ?_, ?_, ?_⟩, ⟨(kI' 4).trans c1, c2, c3, ?_, ?_, ?_, ?_, ?_, ?_⟩, fun i hi => ?_, fun k hk => ?_, d3⟩
  · rw [(kA' 1 (by omega) (by omega)).1, (kA' 2 (by omega) (by omega)).1, (kA' 3 (by omega) (by omega)).1]
    exact b2
  · rw [(kA' 1 (by omega) (by omega)).1, (kA' 2 (by omega) (by omega)).1]
    exact b3
  · rw [(kA' 1 (by omega) (by omega)).1, (kA' 3 (by omega) (by omega)).1]
    exact b4
  · rw [(kA' 1 (by omega) (by omega)).1]
    exact b5
  · rw [(kA' 1 (by omega) (by omega)).1]
    exact b6
  · rw [(kA' 1 (by omega) (by omega)).1]
    exact b7
  · rw [(kA' 4 (by omega) (by omega)).2]
    exact c4
  · rw [(kA' 5 (by omega) (by omega)).1]
    exact c5
  · rw [(kA' 6 (by omega) (by omega)).1]
    exact c6
  · rw [(kA' 7 (by omega) (by omega)).1]
    exact c7
  · rw [(kA' 8 (by omega) (by omega)).1]
    exact c8
  · rw [(kA' 4 (by omega) (by omega)).2, (kA' 5 (by omega) (by omega)).1, (kA' 6 (by omega) (by omega)).1, (kA' 7 (by omega) (by omega)).1, (kA' 8 (by omega) (by omega)).1]
    exact c9
  · have hlt : i < 4000 := by
      rw [RA_len] at hi
      omega
    rw [h1 23 _ (by omega) (by omega) (by omega), h1 24 _ (by omega) (by omega) (by omega), h1 25 _ (by omega) (by omega) (by omega), h1 26 _ (by omega) (by omega) (by omega), h1 27 _ (by omega) (by omega) (by omega)]
    exact d1 i hi
  · have hlt : k < 12 := by omega
    rw [h2 20 _ (by omega) (by omega) (by omega), h2 18 _ (by omega) (by omega) (by omega), h2 19 _ (by omega) (by omega) (by omega), h2 17 _ (by omega) (by omega) (by omega)]
    exact d2 k hk
/-- a program that is compiled, and bound, is one that may stand -/
theorem BS.pg {cl : List Cn} (h : BS p e code cl Fs t s) (hb : ∀ x ∈ cl, bnds code Fs x) : cPg t p (CA code) ∧ cFt t p Fs.length code Fs ∧ rPg s e (RA e code) ∧ rFp s e code Fs ∧ PGc code Fs := by
  obtain ⟨c1, c2, c3, c4, c5, c6, c7, c8, c9, c10, c11, c12, c13⟩ := h
  refine ⟨c1.2.2, c6, c2.2.2.2.2, fun k hk => (c7.2 k hk).2, c8, fun m hm hk => ?_, c11, c12, c9, c10⟩
  obtain ⟨x, hx, hx1⟩ := c5.2 m hm hk
  obtain ⟨q1, q2⟩ := hb x hx
  have q3 := (c5.1 x hx).2.2.2.2.2.1
  subst hx1
  exact ⟨q1, by rw [q2, q3]⟩
end LOA
