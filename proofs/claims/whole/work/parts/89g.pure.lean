/-! ===== PURE: both sides pass a sign ===== -/
abbrev TL (b : Nat → Nat) (n : Nat) : List Tk := tks b n (n + 1) 0
theorem tks_ok {b : Nat → Nat} {n : Nat} : ∀ (f p : Nat), n - p < f → p ≤ n → ∀ i (hi : i < (tks b n f p).length), (tks b n f p)[i].2.2.2.2 ≤ n ∧ ((tks b n f p)[i].1 ≤ 1 ↔ i + 1 = (tks b n f p).length) ∧ ∀ h : i + 1 < (tks b n f p).length, (tks b n f p)[i + 1] = lex b n (tks b n f p)[i].2.2.2.2 := by
  intro f
  induction f with
  | zero =>
    intro p hp
    exact absurd hp (Nat.not_lt_zero _)
  | succ f ih =>
    intro p hf hp
    obtain ⟨l1, l2, l3, l4, l5⟩ := lex_e (b := b) hp
    by_cases c : (lex b n p).1 ≤ 1
    · have e : tks b n (f + 1) p = [lex b n p] := if_pos c
      rw [e]
      intro i hi
      have hi : i < 1 := hi
      have e0 : i = 0 := by omega
      subst e0
      exact ⟨l3, ⟨fun _ => rfl, fun _ => c⟩, fun h => absurd h (by show ¬ 0 + 1 < 1; omega)⟩
    · have e : tks b n (f + 1) p = lex b n p :: tks b n f (lex b n p).2.2.2.2 := if_neg c
      have lp := l4 (by omega)
      have ih := ih (lex b n p).2.2.2.2 (by omega) l3
      have hne : ∃ r, tks b n f (lex b n p).2.2.2.2 = lex b n (lex b n p).2.2.2.2 :: r := by
        obtain ⟨f', rfl⟩ : ∃ f', f = f' + 1 := ⟨f - 1, by omega⟩
        by_cases c2 : (lex b n (lex b n p).2.2.2.2).1 ≤ 1
        · exact ⟨[], if_pos c2⟩
        · exact ⟨_, if_neg c2⟩
      rw [e]
      intro i hi
      cases i with
      | zero =>
        obtain ⟨r, hr⟩ := hne
        refine ⟨l3, ⟨fun q => absurd q c, fun q => ?_⟩, fun h => ?_⟩
        · rw [hr] at q
          have q : 0 + 1 = r.length + 1 + 1 := q
          omega
        · have : (lex b n p :: tks b n f (lex b n p).2.2.2.2)[0 + 1]'h = (tks b n f (lex b n p).2.2.2.2)[0]'(by rw [hr]; exact Nat.succ_pos _) := rfl
          rw [this]
          simp only [hr, List.getElem_cons_zero]
      | succ i =>
        have hi : i < (tks b n f (lex b n p).2.2.2.2).length := Nat.lt_of_succ_lt_succ hi
        obtain ⟨q1, q2, q3⟩ := ih i hi
        refine ⟨q1, ⟨fun q => ?_, fun q => ?_⟩, fun h => q3 (Nat.lt_of_succ_lt_succ h)⟩
        · have := q2.mp q
          show i + 1 + 1 = (tks b n f (lex b n p).2.2.2.2).length + 1
          omega
        · refine q2.mpr ?_
          have q : i + 1 + 1 = (tks b n f (lex b n p).2.2.2.2).length + 1 := q
          omega
theorem TL_len {b : Nat → Nat} {n : Nat} : (TL b n).length ≤ n + 1 := tks_len (n + 1) 0
theorem TL_ok {b : Nat → Nat} {n i : Nat} (hi : i < (TL b n).length) : (TL b n)[i].2.2.2.2 ≤ n ∧ ((TL b n)[i].1 ≤ 1 ↔ i + 1 = (TL b n).length) ∧ ∀ h : i + 1 < (TL b n).length, (TL b n)[i + 1] = lex b n (TL b n)[i].2.2.2.2 := tks_ok (n + 1) 0 (by omega) (Nat.zero_le _) i hi
theorem TL_at {b : Nat → Nat} {n i : Nat} (hi : i < (TL b n).length) : (TL b n)[i].2.2.2.1 ≤ (TL b n)[i].2.2.2.2 := by
  have hp : ∀ (f p : Nat), p ≤ n → n - p < f → ∀ j (hj : j < (tks b n f p).length), (tks b n f p)[j].2.2.2.1 ≤ (tks b n f p)[j].2.2.2.2 := by
    intro f
    induction f with
    | zero =>
      intro p _ hp
      exact absurd hp (Nat.not_lt_zero _)
    | succ f ih =>
      intro p hp hf j hj
      obtain ⟨l1, l2, l3, l4, l5⟩ := lex_e (b := b) hp
      by_cases c : (lex b n p).1 ≤ 1
      · have e : tks b n (f + 1) p = [lex b n p] := if_pos c
        have hj1 : j < 1 := by rw [e] at hj; exact hj
        have e0 : j = 0 := by omega
        subst e0
        simp only [e, List.getElem_cons_zero]
        exact l2
      · have e : tks b n (f + 1) p = lex b n p :: tks b n f (lex b n p).2.2.2.2 := if_neg c
        have lp := l4 (by omega)
        simp only [e]
        cases j with
        | zero => exact l2
        | succ j => exact ih (lex b n p).2.2.2.2 l3 (by omega) j (by rw [e] at hj; exact Nat.lt_of_succ_lt_succ hj)
  exact hp (n + 1) 0 (Nat.zero_le _) (by omega) i hi
theorem c3_1 {k : Tk} : (c3 k).1 = Int32.ofNat (ck k) := by
  unfold c3 ck
  by_cases h : k.1 = 3
  · rw [if_pos h, if_pos h]
    cases wix k.2.2.1 <;> rfl
  · rw [if_neg h, if_neg h]
    split
    · rename_i q
      rw [q]
      rfl
    · rfl
theorem c3_2 {k : Tk} : (c3 k).2.1 = Int32.ofNat k.2.2.2.1 := by
  unfold c3
  by_cases h : k.1 = 3
  · rw [if_pos h]
    cases wix k.2.2.1 <;> rfl
  · rw [if_neg h]
    split <;> rfl
theorem ck_lt {k : Tk} (h : okT k) : ck k < 512 := by
  unfold ck
  split
  · split <;> omega
  · rcases h with h | h | ⟨h, -⟩ | ⟨h, -⟩ | ⟨-, h⟩ <;> omega
theorem ck_sg {k : Tk} {c : Nat} (hc : 5 ≤ c) : ck k = c ↔ k.1 = c := by
  unfold ck
  split
  · rename_i h
    split
    · exact ⟨fun q => by omega, fun q => by omega⟩
    · exact ⟨fun q => by omega, fun q => by omega⟩
  · exact Iff.rfl
theorem ck_1 {k : Tk} : ck k = 1 ↔ k.1 = 1 := by
  unfold ck
  split
  · rename_i h
    split
    · exact ⟨fun q => by omega, fun q => by omega⟩
    · exact ⟨fun q => by omega, fun q => by omega⟩
  · exact Iff.rfl
/-- as gL, where one exception has been made -/
def gX (E : Nat → Nat → Prop) (A : Nat → Prop) (t t' : cS) : Prop := (∀ k f, ¬ E k f → kI t' k f = kI t k f) ∧ (∀ k f, ¬ (k = 2 ∧ f = 1 ∧ E 2 1) → kP t' k f = kP t k f) ∧ (∀ k, ¬ A k → k ≠ 111 → kA t' k = kA t k ∧ kB t' k = kB t k ∧ kD t' k = kD t k) ∧ kM t' = kM t ∧ kH t' = kH t ∧ kN t ≤ kN t' ∧ kN t' + potL t ≤ kN t + potL t' + 1 ∧ kQ t' + poqL t ≤ kQ t + poqL t' + 6
theorem gX.pre {E : Nat → Nat → Prop} {A : Nat → Prop} {t t1 t2 : cS} (h : gL E A t t1) (g : gX E A t1 t2) : gX E A t t2 := by
  obtain ⟨a1, a2, a4, a5, a6, a8, a9, a10⟩ := h
  obtain ⟨b1, b2, b4, b5, b6, b8, b9, b10⟩ := g
  exact ⟨fun k f r => (b1 k f r).trans (a1 k f r), fun k f r => (b2 k f r).trans (a2 k f r), fun k r1 r3 => ⟨(b4 k r1 r3).1.trans (a4 k r1 r3).1, (b4 k r1 r3).2.1.trans (a4 k r1 r3).2.1, (b4 k r1 r3).2.2.trans (a4 k r1 r3).2.2⟩, b5.trans a5, b6.trans a6, by omega, by omega, by omega⟩
theorem gX.mono {E E' : Nat → Nat → Prop} {A A' : Nat → Prop} {t t' : cS} (h : gX E A t t') (hE : ∀ k f, E k f → E' k f) (hA : ∀ k, A k → A' k) : gX E' A' t t' := ⟨fun k f r => h.1 k f (fun z => r (hE k f z)), fun k f r => h.2.1 k f (fun z => r ⟨z.1, z.2.1, hE 2 1 z.2.2⟩), fun k r1 r2 => h.2.2.1 k (fun z => r1 (hA k z)) r2, h.2.2.2⟩
/-- both stand at token i, so many brackets open, no fault -/
def pR (b : Nat → Nat) (n i op : Nat) (t : cS) (s : mS) : Prop := cT3 t ((TL b n).map c3) ∧ cNow t ((TL b n).map c3) i ∧ (kI t 2 2 = Int32.ofNat op ∧ kI t 2 10 = Int32.ofNat 0 ∧ kI t 2 11 = -Int32.ofNat 1) ∧ op ≤ 10 ∧ n ≤ 1600 ∧ rTx s b n ∧ (∃ hi : i < (TL b n).length, rTk s (TL b n)[i]) ∧ rWd s ∧ s.1 11 = Int32.ofNat op ∧ s.1 9 = 0
/-- both have told this fault -/
def pF (t : cS) (s : mS) : Prop := ∃ x : Nat, ∃ y : Nat, 1 ≤ x ∧ x ≤ 6 ∧ y ≤ 1600 ∧ kI t 2 10 = Int32.ofNat x ∧ kI t 2 11 = Int32.ofNat y ∧ s.1 9 = Int32.ofNat x ∧ s.1 10 = Int32.ofNat y
abbrev eP : Nat → Nat → Prop := fun k f => (k = 3 ∧ (f = 4 ∨ f = 5 ∨ f = 6)) ∨ (k = 2 ∧ (f = 2 ∨ f = 10 ∨ f = 11))
abbrev a0 : Nat → Prop := fun _ => False
abbrev fPs (s s' : mS) : Prop := mfr (fun q => q = 5 ∨ q = 6 ∨ q = 8 ∨ q = 9 ∨ q = 10 ∨ q = 11) (fun q => q = 7) (fun _ => False) (fun _ => False) s s'
section PAS
variable {N : Nat} {X : Nat → Option zz_C} {t : cS} {s : mS} {b : Nat → Nat} {n i op : Nat}
theorem pR.now (h : pR b n i op t s) : ∃ hi : i < (TL b n).length, kI t 3 5 = Int32.ofNat (ck (TL b n)[i]) ∧ kI t 3 6 = Int32.ofNat (TL b n)[i].2.2.2.1 ∧ kL t 3 7 = (c3 (TL b n)[i]).2.2 ∧ rTk s (TL b n)[i] ∧ okT (TL b n)[i] ∧ (TL b n)[i].2.2.2.2 ≤ n ∧ ck (TL b n)[i] < 512 ∧ (TL b n).length ≤ 1601 := by
  obtain ⟨h1, ⟨e4, hl, e5, e6, e7⟩, h3, h4, h5, h6, ⟨hi, h7⟩, h8, h9, h10⟩ := h
  rw [List.getElem_map] at e5 e6 e7
  have := TL_len (b := b) (n := n)
  refine ⟨hi, e5.trans c3_1, e6.trans c3_2, e7, h7, h7.ok, (TL_ok hi).1, ck_lt h7.ok, by omega⟩
theorem c_fail {x : Nat} (h : pR b n i op t s) (hx : 1 ≤ x ∧ x ≤ 6) : ∃ t', cf_202 N X 0 (Int32.ofNat x) t = some (t', .inr ()) ∧ gX eP a0 t t' ∧ ∃ hi : i < (TL b n).length, kI t' 2 10 = Int32.ofNat (if (TL b n)[i].1 = 1 then 1 else x) ∧ kI t' 2 11 = Int32.ofNat (TL b n)[i].2.2.2.1 := by
  obtain ⟨hi, e5, e6, e7, hk, ho, he, hlt, hll⟩ := h.now
  have hr := h.1.2.2.2.2.2.2.2.k
  have key : ∀ y : Nat, y = (if (TL b n)[i].1 = 1 then 1 else x) → cf_202 N X 0 (Int32.ofNat x) t = some (jX (jI (jI t 2 10 (Int32.ofNat y)) 2 11 (Int32.ofNat (TL b n)[i].2.2.2.1)) 6, .inr ()) := fun y ey => by
    by_cases c : (TL b n)[i].1 = 1
    · rw [if_pos c] at ey
      subst ey
      have c1 := ck_1.mpr c
      have e42 : cf_42 N X t = some (t, .inl (some (.int (Int32.ofNat 1)))) := by
        rw [← c1]
        repeat ((first | unfold cf_42 | unfold cf_42_0); try simp (disch := omega) only [ev_S, ev_C, ↓reduceIte, Nat.reduceEqDiff, Nat.reduceLeDiff, Nat.reduceAdd, Nat.reduceMul, Nat.reduceSub, reduceCtorEq, l32_0, l32_1, l32_2, l32_3, l32_4, l32_5, e5])
      have e243 : cf_243 N X (jI t 2 10 (Int32.ofNat 1)) = some (jI t 2 10 (Int32.ofNat 1), .inl (some (.int (Int32.ofNat (TL b n)[i].2.2.2.1)))) := by
        repeat ((first | unfold cf_243 | unfold cf_243_0); try simp (disch := omega) only [ev_S, ev_C, ↓reduceIte, Nat.reduceEqDiff, Nat.reduceLeDiff, Nat.reduceAdd, Nat.reduceMul, Nat.reduceSub, reduceCtorEq, l32_0, l32_1, l32_2, l32_3, l32_4, l32_6, e6])
      unfold cf_202 cf_202_0 cf_202_4 cf_202_12 cf_202_16 cf_202_21 cf_202_32
      simp (disch := omega) only [ev_S, ev_C, ↓reduceIte, Nat.reduceEqDiff, l32_0, l32_1, e42, e243]
    · rw [if_neg c] at ey
      subst ey
      have c1 : ¬ ck (TL b n)[i] = 1 := fun q => c (ck_1.mp q)
      have e42 : cf_42 N X t = some (t, .inl (some (.int (Int32.ofNat (ck (TL b n)[i]))))) := by
        repeat ((first | unfold cf_42 | unfold cf_42_0); try simp (disch := omega) only [ev_S, ev_C, ↓reduceIte, Nat.reduceEqDiff, Nat.reduceLeDiff, Nat.reduceAdd, Nat.reduceMul, Nat.reduceSub, reduceCtorEq, l32_0, l32_1, l32_2, l32_3, l32_4, l32_5, e5])
      have e243 : cf_243 N X (jI t 2 10 (Int32.ofNat y)) = some (jI t 2 10 (Int32.ofNat y), .inl (some (.int (Int32.ofNat (TL b n)[i].2.2.2.1)))) := by
        repeat ((first | unfold cf_243 | unfold cf_243_0); try simp (disch := omega) only [ev_S, ev_C, ↓reduceIte, Nat.reduceEqDiff, Nat.reduceLeDiff, Nat.reduceAdd, Nat.reduceMul, Nat.reduceSub, reduceCtorEq, l32_0, l32_1, l32_2, l32_3, l32_4, l32_6, e6])
      unfold cf_202 cf_202_0 cf_202_4 cf_202_12 cf_202_20 cf_202_21 cf_202_32
      simp (disch := omega) only [ev_S, ev_C, ↓reduceIte, Nat.reduceEqDiff, l32_0, l32_1, e42, e243, c1]
  refine ⟨_, key _ rfl, ⟨fun k f r => ?_, fun _ _ _ => rfl, fun _ _ _ => ⟨rfl, rfl, rfl⟩, rfl, rfl, ?_, ?_, ?_⟩, hi, rfl, rfl⟩
  · show (if k = 2 ∧ f = 11 then _ else if k = 2 ∧ f = 10 then _ else kI t k f) = _
    rw [if_neg (by omega), if_neg (by omega)]
  · show kN t ≤ kN t + 1
    omega
  · show kN t + 1 + potL t ≤ kN t + potL t + 1
    omega
  · show kQ t + 6 + poqL t ≤ kQ t + poqL t + 6
    omega
theorem c_fine {x : Int32} : cf_202 N X (Int32.ofNat 1) x t = some (t, .inl none) := by
  unfold cf_202 cf_202_0 cf_202_46
  simp (disch := omega) only [ev_S, ev_C, ↓reduceIte, Nat.reduceEqDiff, l32_0, l32_1]
/-- one token on, on both sides -/
theorem p_adv (hN : 170000 ≤ N) (h : pR b n i op t s) (h2 : ∀ hi : i < (TL b n).length, 2 ≤ (TL b n)[i].1) : ∃ t' s', cf_46 N X t = some (t', .inl none) ∧ mf_260 N s = some (s', none) ∧ pR b n (i + 1) op t' s' ∧ gL eP a0 t t' ∧ fPs s s' := by
  have hn := h.now
  obtain ⟨hi, e5, e6, e7, hk, ho, he, hlt, hll⟩ := hn
  obtain ⟨h1, ⟨e4, hl, f5, f6, f7⟩, h3, h4, h5, h6, -, h8, h9, h10⟩ := h
  obtain ⟨q1, q2, q3⟩ := TL_ok hi
  have hge := h2 hi
  have hi1 : i + 1 < (TL b n).length := by
    by_cases c : i + 1 = (TL b n).length
    · have := q2.mpr c
      omega
    · omega
  obtain ⟨t', a1, a2, a3, a4⟩ := c_adv (N := N) (X := X) (i := i + 1) h1 (by rw [List.length_map]; omega) (by rw [List.length_map]; exact hi1) (Or.inl (by rw [e4, l32_1, i32add]))
  obtain ⟨s', b1, b2, b3⟩ := r_take (N := N) hN h6 hk he
  refine ⟨t', s', a1, b1, ⟨a3, a2, ⟨by rw [a4.1 2 2 (by omega)]; exact h3.1, by rw [a4.1 2 10 (by omega)]; exact h3.2.1, by rw [a4.1 2 11 (by omega)]; exact h3.2.2⟩, h4, h5, h6.keep b3, ⟨hi1, ?_⟩, ?_, ?_, ?_⟩, a4.mono (by omega) (fun _ z => z), ⟨fun q r => b3.1 q (by omega), fun q r => b3.2.1 q r, b3.2.2.1, b3.2.2.2⟩⟩
  · have e : (TL b n)[i + 1] = lex b n (TL b n)[i].2.2.2.2 := q3 hi1
    rw [e]
    exact b2
  · intro w hw
    rw [b3.2.2.2 0 (fun z => z)]
    exact h8 w hw
  · rw [b3.1 11 (by omega)]
    exact h9
  · rw [b3.1 9 (by omega)]
    exact h10
/-- wrong() and failUnless(false, CANNOT_COME) -/
theorem p_wrong (h : pR b n i op t s) : ∃ t' s', cf_202 N X 0 2 t = some (t', .inr ()) ∧ mf_262 N s = some (s', none) ∧ pF t' s' ∧ gX eP a0 t t' ∧ fPs s s' := by
  obtain ⟨hi, e5, e6, e7, hk, ho, he, hlt, hll⟩ := h.now
  obtain ⟨t', a1, a2, hi', a3, a4⟩ := c_fail (N := N) (X := X) (x := 2) h (by omega)
  have w := r_wrong (N := N) hk h.2.2.2.2.2.2.2.2.2
  have l1 : (TL b n)[i].2.2.2.1 ≤ 1600 := by
    have h6 := h.2.2.2.2.1
    have := TL_at hi
    omega
  refine ⟨t', _, a1, w, ⟨if (TL b n)[i].1 = 1 then 1 else 2, (TL b n)[i].2.2.2.1, ?_, ?_, l1, a3, a4, ?_, rfl⟩, a2, ⟨fun q r => ?_, fun _ _ => rfl, fun _ _ => rfl, fun _ _ => rfl⟩⟩
  · split <;> omega
  · split <;> omega
  · show (if (TL b n)[i].1 = 1 then (1 : Int32) else 2) = _
    split <;> rfl
  · show (if q = 10 then _ else if q = 9 then _ else s.1 q) = _
    rw [if_neg (by omega), if_neg (by omega)]
end PAS
