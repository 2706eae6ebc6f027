/-! ===== PURE: mark, back: both sides ===== -/
/-- nothing but shelves and marks has changed -/
def lfr (t t' : cS) : Prop := (∀ k f, k < 2000000 → ¬ (k = 0 ∧ f = 9) → kI t' k f = kI t k f) ∧ kL t' = kL t ∧ (∀ k f, ¬ (k = 0 ∧ f = 7) → kP t' k f = kP t k f) ∧ (∀ k, k < 2000000 → k ≠ 111 → kA t' k = kA t k) ∧ (∀ k, k < 2000000 → k ≠ 111 → kB t' k = kB t k) ∧ kN t ≤ kN t'
theorem lfr.rf {t : cS} : lfr t t := ⟨fun _ _ _ _ => rfl, rfl, fun _ _ _ => rfl, fun _ _ _ => rfl, fun _ _ _ => rfl, Nat.le_refl _⟩
theorem lfr.tr {t t1 t2 : cS} (h : lfr t t1) (g : lfr t1 t2) : lfr t t2 := by
  obtain ⟨a1, a2, a3, a4, a5, a6⟩ := h
  obtain ⟨b1, b2, b3, b4, b5, b6⟩ := g
  exact ⟨fun k f p q => (b1 k f p q).trans (a1 k f p q), b2.trans a2, fun k f q => (b3 k f q).trans (a3 k f q), fun k p q => (b4 k p q).trans (a4 k p q), fun k p q => (b5 k p q).trans (a5 k p q), Nat.le_trans a6 b6⟩
theorem lfr.of {cA cB : Nat → Prop} {t t' : cS} (h : kfr (fun _ _ => False) cA cB t t') (hA : ∀ k, cA k → 2000000 ≤ k) (hB : ∀ k, cB k → 2000000 ≤ k) : lfr t t' := by
  obtain ⟨a1, a2, a3, a4, a5, a6, a7, a8⟩ := h
  exact ⟨fun k f _ _ => a1 k f (fun z => z), a2, fun k f _ => by rw [a3], fun k p q => a4 k (fun z => by have := hA k z; omega) q, fun k p q => a5 k (fun z => by have := hB k z; omega) q, a8⟩
/-- all rows of the Shelves σ, and all rows that there are -/
def gS (t : cS) (σ : Nat) : Nat := sm (fun j => (kA t (2000000 + 20 * σ + 1 + 1 + j)).1) 0 8
def gO (t : cS) : Option Nat → Nat
  | none => 0
  | some σ => gS t σ
def gA (t : cS) (σ0 : Nat) : Nat := gS t σ0 + sm (fun m => gO t (kM t m)) 0 6
theorem sm_le {f g : Nat → Nat} {q : Nat} : ∀ {c : Nat}, (∀ i, q ≤ i → i < q + c → f i ≤ g i) → sm f q c ≤ sm g q c
  | 0, _ => Nat.le_refl _
  | c + 1, h => Nat.add_le_add (sm_le (fun i a b => h i a (by omega))) (h (q + c) (by omega) (by omega))
section PN
variable {N : Nat} {X : Nat → Option zz_C} {t t' : cS} {s s' : mS} {σ σ1 σ0 k m : Nat} {μ : Nat → Nat} {S : Nat → Option (Th 4)}
/-- the reference's loops -/
theorem r_backL (hN : 8000 ≤ N) {V : Nat → Option (Th 4)} (hm : m < 6) (hw : ∀ j y, j < 8 → V j = some y → wfT 4 y) : ∀ (d i : Nat) (s : mS), i + d = 8 → s.1 88 = Int32.ofNat m → (∀ j, j < 8 → rSl (s.2.2.1 47) (8 + 8 * m + j) (V j)) → (∀ j, j < i → rSl (s.2.2.1 47) j (V j)) → ∃ s', (∀ f, mf_85_L1 N (f + (d + 1)) 0 (Int32.ofNat i) s = some (s', some (.int 1))) ∧ (∀ j, j < 8 → rSl (s'.2.2.1 47) j (V j)) ∧ (∀ y, 19280 ≤ y → s'.2.2.1 47 y = s.2.2.1 47 y) ∧ mfr (fun _ => False) (fun _ => False) (fun q => q = 47 ∨ q = 58 ∨ q = 59) (fun _ => False) s s' := by
  intro d
  induction d with
  | zero =>
    intro i s hi h88 hs hd
    have hi : i = 8 := hi
    subst hi
    refine ⟨s, fun f => ?_, hd, fun _ _ => rfl, mfr.rf⟩
    show mf_85_21 N (mf_85_L1 N f) (Int32.ofNat 8) s = _
    unfold mf_85_21
    rw [if_pos (show (8 : Int32) ≤ Int32.ofNat 8 by decide)]
    rfl
  | succ d ih =>
    intro i s hi h88 hs hd
    obtain ⟨s1, q1, q2, q3, q4⟩ := r_copy (N := N) (k := 8 + 8 * m + i) (k' := i) hN (by omega) (by omega) (by omega) (fun y hy => hw i y (by omega) hy) (hs i (by omega))
    have hk : ∀ l x, l < 64 → l ≠ i → rSl (s.2.2.1 47) l x → rSl (s1.2.2.1 47) l x := fun l x hl hn q => q.congr (fun y hy => q4 y (fun z => by obtain ⟨u1, u2⟩ := hy; omega))
    obtain ⟨s', r1, r2, r3, r4⟩ := ih (i + 1) s1 (by omega) (by rw [q3.1 88 (fun z => z)]; exact h88) (fun j hj => hk _ _ (by omega) (by omega) (hs j hj)) (fun j hj => by
      by_cases e : j = i
      · subst e
        exact q2
      · exact hk _ _ (by omega) e (hd j (by omega)))
    refine ⟨s', fun f => ?_, r2, fun y hy => (r3 y hy).trans (q4 y (by omega)), q3.tr r4⟩
    show mf_85_21 N (mf_85_L1 N (f + (d + 1))) (Int32.ofNat i) s = _
    unfold mf_85_21
    rw [if_neg (show ¬ (8 : Int32) ≤ Int32.ofNat i from fun q => by have := (i32le (a := 8) (by decide) (by omega)).mp q; omega)]
    unfold mf_85_27
    have e1 : (2410 : Int32) * ((8 + 8 * s.1 88) + Int32.ofNat i) = Int32.ofNat (2410 * (8 + 8 * m + i)) := by
      rw [h88, show (8 : Int32) * Int32.ofNat m = Int32.ofNat (8 * m) from i32ml, show (8 : Int32) + Int32.ofNat (8 * m) = Int32.ofNat (8 + 8 * m) from i32add (a := 8), i32add]
      exact i32ml
    rw [e1, show (2410 : Int32) * Int32.ofNat i = Int32.ofNat (2410 * i) from i32ml, q1]
    show mf_85_L1 N (f + (d + 1)) 0 (Int32.ofNat i + 1) s1 = _
    rw [show Int32.ofNat i + 1 = Int32.ofNat (i + 1) from i32al]
    exact r1 f
theorem r_markL (hN : 8000 ≤ N) {V : Nat → Option (Th 4)} (hm : m < 6) (hw : ∀ j y, j < 8 → V j = some y → wfT 4 y) : ∀ (d i : Nat) (s : mS), i + d = 8 → s.1 88 = Int32.ofNat m → (∀ j, j < 8 → rSl (s.2.2.1 47) j (V j)) → (∀ j, j < i → rSl (s.2.2.1 47) (8 + 8 * m + j) (V j)) → ∃ s', (∀ f, mf_83_L1 N (f + (d + 1)) 0 (Int32.ofNat i) s = some (mI s' 88 (Int32.ofNat (m + 1)), some (.int (Int32.ofNat (m + 1))))) ∧ (∀ j, j < 8 → rSl (s'.2.2.1 47) (8 + 8 * m + j) (V j)) ∧ (∀ y, ¬ (2410 * (8 + 8 * m) ≤ y ∧ y < 2410 * (16 + 8 * m)) → s'.2.2.1 47 y = s.2.2.1 47 y) ∧ mfr (fun _ => False) (fun _ => False) (fun q => q = 47 ∨ q = 58 ∨ q = 59) (fun _ => False) s s' := by
  intro d
  induction d with
  | zero =>
    intro i s hi h88 hs hd
    have hi : i = 8 := hi
    subst hi
    refine ⟨s, fun f => ?_, hd, fun _ _ => rfl, mfr.rf⟩
    show mf_83_48 N (mf_83_L1 N f) (Int32.ofNat 8) s = _
    unfold mf_83_48
    rw [if_pos (show (8 : Int32) ≤ Int32.ofNat 8 by decide)]
    unfold mf_83_85
    rw [h88, show Int32.ofNat m + 1 = Int32.ofNat (m + 1) from i32al]
  | succ d ih =>
    intro i s hi h88 hs hd
    obtain ⟨s1, q1, q2, q3, q4⟩ := r_copy (N := N) (k := i) (k' := 8 + 8 * m + i) hN (by omega) (by omega) (by omega) (fun y hy => hw i y (by omega) hy) (hs i (by omega))
    have hk : ∀ l x, l < 64 → l ≠ 8 + 8 * m + i → rSl (s.2.2.1 47) l x → rSl (s1.2.2.1 47) l x := fun l x hl hn q => q.congr (fun y hy => q4 y (fun z => by obtain ⟨u1, u2⟩ := hy; omega))
    obtain ⟨s', r1, r2, r3, r4⟩ := ih (i + 1) s1 (by omega) (by rw [q3.1 88 (fun z => z)]; exact h88) (fun j hj => hk _ _ (by omega) (by omega) (hs j hj)) (fun j hj => by
      by_cases e : j = i
      · subst e
        exact q2
      · exact hk _ _ (by omega) (by omega) (hd j (by omega)))
    refine ⟨s', fun f => ?_, r2, fun y hy => (r3 y hy).trans (q4 y (by omega)), q3.tr r4⟩
    show mf_83_48 N (mf_83_L1 N (f + (d + 1))) (Int32.ofNat i) s = _
    unfold mf_83_48
    rw [if_neg (show ¬ (8 : Int32) ≤ Int32.ofNat i from fun q => by have := (i32le (a := 8) (by decide) (by omega)).mp q; omega)]
    unfold mf_83_54
    have e1 : (2410 : Int32) * ((8 + 8 * s.1 88) + Int32.ofNat i) = Int32.ofNat (2410 * (8 + 8 * m + i)) := by
      rw [h88, show (8 : Int32) * Int32.ofNat m = Int32.ofNat (8 * m) from i32ml, show (8 : Int32) + Int32.ofNat (8 * m) = Int32.ofNat (8 + 8 * m) from i32add (a := 8), i32add]
      exact i32ml
    rw [e1, show (2410 : Int32) * Int32.ofNat i = Int32.ofNat (2410 * i) from i32ml, q1]
    show mf_83_L1 N (f + (d + 1)) 0 (Int32.ofNat i + 1) s1 = _
    rw [show Int32.ofNat i + 1 = Int32.ofNat (i + 1) from i32al]
    exact r1 f
theorem r_dropL (hN : 8000 ≤ N) (hw : ∀ j y, S j = some y → wfT 4 y) : ∀ (d i : Nat) (s : mS), i + d = 48 → 8 ≤ i → (∀ j, j < 8 → rSl (s.2.2.1 47) j (S j)) → (∀ j, i + 8 ≤ j → j < 56 → rSl (s.2.2.1 47) j (S j)) → (∀ j, i ≤ j → j < i + 8 → rSl (s.2.2.1 47) j (S j)) → (∀ j, 8 ≤ j → j < i → rSl (s.2.2.1 47) j (S (j + 8))) → ∃ s', (∀ f, mf_83_L4 N (f + (d + 1)) 0 (Int32.ofNat i) s = mf_83_46 N (mI s' 88 5)) ∧ (∀ j, j < 8 → rSl (s'.2.2.1 47) j (S j)) ∧ (∀ j, 8 ≤ j → j < 48 → rSl (s'.2.2.1 47) j (S (j + 8))) ∧ mfr (fun _ => False) (fun _ => False) (fun q => q = 47 ∨ q = 58 ∨ q = 59) (fun _ => False) s s' := by
  intro d
  induction d with
  | zero =>
    intro i s hi h8 h0 h1 h2 h3
    have hi : i = 48 := hi
    subst hi
    refine ⟨s, fun f => ?_, h0, h3, mfr.rf⟩
    show mf_83_12 N (mf_83_L4 N f) (Int32.ofNat 48) s = _
    unfold mf_83_12
    rw [if_pos (show (48 : Int32) ≤ Int32.ofNat 48 by decide)]
    rfl
  | succ d ih =>
    intro i s hi h8 h0 h1 h2 h3
    obtain ⟨s1, q1, q2, q3, q4⟩ := r_copy (N := N) (k := i + 8) (k' := i) hN (by omega) (by omega) (by omega) (fun y hy => hw (i + 8) y hy) (h1 (i + 8) (by omega) (by omega))
    have hk : ∀ l x, l < 64 → l ≠ i → rSl (s.2.2.1 47) l x → rSl (s1.2.2.1 47) l x := fun l x hl hn q => q.congr (fun y hy => q4 y (fun z => by obtain ⟨u1, u2⟩ := hy; omega))
    obtain ⟨s', r1, r2, r3, r4⟩ := ih (i + 1) s1 (by omega) (by omega) (fun j hj => hk _ _ (by omega) (by omega) (h0 j hj)) (fun j a b => hk _ _ (by omega) (by omega) (h1 j (by omega) b)) (fun j a b => by
      by_cases e : j = i + 8
      · exact hk _ _ (by omega) (by omega) (h1 j (by omega) (by omega))
      · exact hk _ _ (by omega) (by omega) (h2 j (by omega) (by omega))) (fun j a b => by
      by_cases e : j = i
      · subst e
        exact q2
      · exact hk _ _ (by omega) (by omega) (h3 j a (by omega)))
    refine ⟨s', fun f => ?_, r2, r3, q3.tr r4⟩
    show mf_83_12 N (mf_83_L4 N (f + (d + 1))) (Int32.ofNat i) s = _
    unfold mf_83_12
    rw [if_neg (show ¬ (48 : Int32) ≤ Int32.ofNat i from fun q => by have := (i32le (a := 48) (by decide) (by omega)).mp q; omega)]
    unfold mf_83_18
    rw [show Int32.ofNat i + 8 = Int32.ofNat (i + 8) from i32al, show (2410 : Int32) * Int32.ofNat (i + 8) = Int32.ofNat (2410 * (i + 8)) from i32ml, show (2410 : Int32) * Int32.ofNat i = Int32.ofNat (2410 * i) from i32ml, q1]
    show mf_83_L4 N (f + (d + 1)) 0 (Int32.ofNat i + 1) s1 = _
    rw [show Int32.ofNat i + 1 = Int32.ofNat (i + 1) from i32al]
    exact r1 f
theorem i32sub {a : Nat} (h : 0 < a) : Int32.ofNat a - 1 = Int32.ofNat (a - 1) := by
  have e : Int32.ofNat a = Int32.ofNat (a - 1) + 1 := by
    rw [show Int32.ofNat (a - 1) + 1 = Int32.ofNat (a - 1 + 1) from i32al, show a - 1 + 1 = a by omega]
  rw [e]
  exact Int32.add_sub_cancel _ _
theorem p_back (hN : 8000 ≤ N) (h : iS S σ0 k μ t s) : ∃ t' s' S' σ' k' , ∃ v : Int32, cf_19 N X t = some (t', .inl (some (.int v))) ∧ mf_85 N s = some (s', some (.int v)) ∧ iS S' σ' k' μ t' s' ∧ lfr t t' ∧ kN t' = kN t ∧ kQ t' = kQ t ∧ gA t' σ' = gA t σ0 ∧ mfr (fun q => q = 88) (fun _ => False) (fun q => q = 47 ∨ q = 58 ∨ q = 59) (fun _ => False) s s' := by
  have h' := h
  obtain ⟨h1, h2, h3, h4, ⟨h5, h50⟩, h6, h7, h8, h9⟩ := h'
  unfold cf_19 cf_19_0 mf_85 mf_85_0
  rw [h3, h4]
  by_cases e0 : k = 0
  · subst e0
    rw [if_neg (fun q => q rfl), if_neg (fun q => q rfl)]
    exact ⟨t, s, S, σ0, 0, 0, rfl, rfl, h, lfr.rf, rfl, rfl, rfl, mfr.rf⟩
  · have e00 : ¬ Int32.ofNat k = 0 := fun q => e0 ((i32eq (b := 0) (by omega) (by decide)).mp q)
    rw [if_pos e00, if_pos e00]
    obtain ⟨m, rfl⟩ : ∃ m, k = m + 1 := ⟨k - 1, by omega⟩
    obtain ⟨n1, n2⟩ := h9 m (by omega)
    obtain ⟨⟨o1, o2⟩, o3, o4⟩ := h8 m (by omega) _ n1
    have ek : Int32.ofNat (m + 1) - 1 = Int32.ofNat m := i32sub (by omega)
    have eg : ¬ (Int32.ofNat m < 0 ∨ 6 ≤ m) := fun q => q.elim (i32n (by omega)) (by omega)
    unfold cf_19_9 mf_85_9
    rw [h3, h4, ek, i32c (m := m) (by omega), if_pos eg, n1]
    have hV : ∀ j y, j < 8 → S (8 + 8 * m + j) = some y → wfT 4 y := fun j y _ q => h7 _ y q
    obtain ⟨s', r1, r2, r3, r4⟩ := r_backL (N := N) (V := fun j => S (8 + 8 * m + j)) hN (by omega) hV 8 0 (mI s 88 (Int32.ofNat m)) rfl rfl (fun j hj => (n2 j hj).2) (fun j hj => absurd hj (Nat.not_lt_zero _))
    have r1 := r1 (N - 9)
    rw [show N - 9 + (8 + 1) = N by omega] at r1
    have hs47 : (mI s 88 (Int32.ofNat m)).2.2.1 47 = s.2.2.1 47 := rfl
    have eM : ∀ m', kM (jP (jM (jI t 0 9 (Int32.ofNat m)) (va_up (kM (jI t 0 9 (Int32.ofNat m))) m (some σ0))) 0 7 (some (μ m))) m' = if m' = m then some σ0 else kM t m' := fun _ => rfl
    refine ⟨jP (jM (jI t 0 9 (Int32.ofNat m)) (va_up (kM (jI t 0 9 (Int32.ofNat m))) m (some σ0))) 0 7 (some (μ m)), s', fun i => if i < 8 then S (8 + 8 * m + i) else S i, μ m, m, 1, ?_, r1, ⟨by omega, rfl, rfl, ?_, ⟨o1, o2⟩, fun j hj => ?_, fun j x hx => ?_, fun m' hm' σ hσ => ?_, fun m' hm' => ?_⟩, ⟨fun k f p q => if_neg q, rfl, fun k f q => if_neg q, fun _ _ _ => rfl, fun _ _ _ => rfl, Nat.le_refl _⟩, rfl, rfl, ?_, ?_⟩
    · show cf_19_33 N X (μ m) (jI t 0 9 (Int32.ofNat m)) = _
      unfold cf_19_33
      have e7 : kP (jI t 0 9 (Int32.ofNat m)) 0 7 = some σ0 := h2
      have e9 : kI (jI t 0 9 (Int32.ofNat m)) 0 9 = Int32.ofNat m := rfl
      rw [e7, e9]
      show (if ¬ (_ ∨ _) then _ else none) = _
      rw [i32c (m := m) (by omega), if_pos eg, if_pos (show kH (jI t 0 9 (Int32.ofNat m)) σ0 = true from h5.1)]
      rfl
    · rw [r4.1 88 (fun z => z)]
      rfl
    · show cS1 t (μ m) j (serO (if j < 8 then S (8 + 8 * m + j) else S j)) ∧ rSl (s'.2.2.1 47) j (if j < 8 then S (8 + 8 * m + j) else S j)
      rw [if_pos hj]
      exact ⟨(n2 j hj).1, r2 j hj⟩
    · have hx : (if j < 8 then S (8 + 8 * m + j) else S j) = some x := hx
      by_cases c : j < 8
      · rw [if_pos c] at hx
        exact h7 _ x hx
      · rw [if_neg c] at hx
        exact h7 _ x hx
    · rw [eM] at hσ
      by_cases c : m' = m
      · rw [if_pos c] at hσ
        cases hσ
        refine ⟨⟨h5, h50⟩, fun z => o3 z.symm, fun m2 σ2 b1 b2 b3 => ?_⟩
        rw [eM] at b2
        by_cases c2 : m2 = m
        · omega
        · rw [if_neg c2] at b2
          exact absurd b3.symm (h8 m2 b1 σ2 b2).2.1
      · rw [if_neg c] at hσ
        obtain ⟨p1, p2, p3⟩ := h8 m' hm' σ hσ
        refine ⟨p1, fun z => c (p3 m (μ m) (by omega) n1 z), fun m2 σ2 b1 b2 b3 => ?_⟩
        rw [eM] at b2
        by_cases c2 : m2 = m
        · rw [if_pos c2] at b2
          cases b2
          exact absurd b3 p2
        · rw [if_neg c2] at b2
          exact p3 m2 σ2 b1 b2 b3
    · obtain ⟨p1, p2⟩ := h9 m' (by omega)
      refine ⟨by rw [eM, if_neg (by omega)]; exact p1, fun j hj => ?_⟩
      show cS1 t (μ m') j (serO (if 8 + 8 * m' + j < 8 then _ else S (8 + 8 * m' + j))) ∧ rSl (s'.2.2.1 47) (8 + 8 * m' + j) (if 8 + 8 * m' + j < 8 then _ else S (8 + 8 * m' + j))
      rw [if_neg (by omega)]
      exact ⟨(p2 j hj).1, (p2 j hj).2.congr (fun y hy => (r3 y (by have := hy.1; omega)).trans rfl)⟩
    · have hG : ∀ σ, gS (jP (jM (jI t 0 9 (Int32.ofNat m)) (va_up (kM (jI t 0 9 (Int32.ofNat m))) m (some σ0))) 0 7 (some (μ m))) σ = gS t σ := fun _ => rfl
      have hO : ∀ o, gO (jP (jM (jI t 0 9 (Int32.ofNat m)) (va_up (kM (jI t 0 9 (Int32.ofNat m))) m (some σ0))) 0 7 (some (μ m))) o = gO t o := fun o => by cases o <;> rfl
      unfold gA
      rw [hG]
      have sw : ∀ (f g : Nat → Nat) (c : Nat), (∀ i, i ≠ m → f i = g i) → m < c → sm f 0 c + g m = sm g 0 c + f m := fun f g c hfg hc => by
        induction c with
        | zero => omega
        | succ c ihc =>
          show sm f 0 c + f (0 + c) + g m = sm g 0 c + g (0 + c) + f m
          rw [Nat.zero_add]
          by_cases e : m = c
          · subst e
            rw [sm_congr (f := f) (g := g) (fun i _ hi => hfg i (by omega))]
            omega
          · have := ihc (by omega)
            have := hfg c (by omega)
            omega
      have := sw (fun m' => gO (jP (jM (jI t 0 9 (Int32.ofNat m)) (va_up (kM (jI t 0 9 (Int32.ofNat m))) m (some σ0))) 0 7 (some (μ m))) (kM (jP (jM (jI t 0 9 (Int32.ofNat m)) (va_up (kM (jI t 0 9 (Int32.ofNat m))) m (some σ0))) 0 7 (some (μ m))) m')) (fun m' => gO t (kM t m')) 6 (fun i hi => by
        show gO _ (kM _ i) = _
        rw [hO, eM, if_neg hi]) (by omega)
      have e1 : gO (jP (jM (jI t 0 9 (Int32.ofNat m)) (va_up (kM (jI t 0 9 (Int32.ofNat m))) m (some σ0))) 0 7 (some (μ m))) (kM (jP (jM (jI t 0 9 (Int32.ofNat m)) (va_up (kM (jI t 0 9 (Int32.ofNat m))) m (some σ0))) 0 7 (some (μ m))) m) = gS t σ0 := by
        rw [hO, eM, if_pos rfl]
        rfl
      have e2 : gO t (kM t m) = gS t (μ m) := by
        rw [n1]
        rfl
      rw [e1, e2] at this
      omega
    · exact mfr.tr (s1 := mI s 88 (Int32.ofNat m)) ⟨fun q r => if_neg r, fun _ _ => rfl, fun _ _ => rfl, fun _ _ => rfl⟩ ⟨fun q r => r4.1 q (fun z => z), r4.2.1, r4.2.2.1, r4.2.2.2⟩
end PN
