/-! ===== PURE: the class goes over the text ===== -/
def wix (ls : List Nat) : Option Nat := (List.range 41).find? (fun i => wd i == ls)
theorem wix_some {ls : List Nat} {i : Nat} (h : wix ls = some i) : i < 41 ∧ wd i = ls := by
  have h1 := List.find?_some h
  have h2 := List.mem_of_find?_eq_some h
  exact ⟨List.mem_range.mp h2, by simpa using h1⟩
theorem wix_none {ls : List Nat} (h : wix ls = none) : ∀ i, i < 41 → ¬ wd i = ls := by
  intro i hi e
  have := List.find?_eq_none.mp h i (List.mem_range.mpr hi)
  exact this (by simpa using e)
/-- a token as the class keeps it -/
def c3 (k : Tk) : Int32 × Int32 × Int64 := if k.1 = 3 then (match wix k.2.2.1 with
  | some i => (4, Int32.ofNat k.2.2.2.1, Int32.toInt64 (Int32.ofNat i))
  | none => (3, Int32.ofNat k.2.2.2.1, Int64.ofNat (evB 32 k.2.2.1))) else if k.1 = 2 then (2, Int32.ofNat k.2.2.2.1, Int64.ofNat k.2.1) else (Int32.ofNat k.1, Int32.ofNat k.2.2.2.1, 0)
theorem evB_lt {B : Nat} (hB : 27 ≤ B) : ∀ {l : List Nat}, okL l → evB B l < B ^ l.length
  | [], _ => Nat.one_pos
  | d :: r, h => by
    have h1 := h d List.mem_cons_self
    have ih := evB_lt hB (fun x hx => h x (List.mem_cons_of_mem _ hx))
    show B * evB B r + d < B ^ (r.length + 1)
    rw [Nat.pow_succ, Nat.mul_comm (B ^ r.length) B]
    have : B * (evB B r + 1) ≤ B * B ^ r.length := Nat.mul_le_mul_left _ ih
    rw [Nat.mul_add, Nat.mul_one] at this
    omega
theorem evB_32 {l : List Nat} (h : okL l) (h8 : l.length ≤ 8) : evB 32 l < 1099511627776 := by
  have h1 := evB_lt (B := 32) (by decide) h
  have h2 : (32 : Nat) ^ l.length ≤ 32 ^ 8 := Nat.pow_le_pow_right (by decide) h8
  have e : (32 : Nat) ^ 8 = 1099511627776 := by decide
  omega
theorem lg_eq0 {a b : Nat} (ha : a < 9223372036854775808) (hb : b < 9223372036854775808) : (lg_cmp (Int64.ofNat a) (Int64.ofNat b) = Int32.ofNat 0) = (a = b) := by
  unfold lg_cmp
  apply propext
  by_cases c : a = b
  · subst c
    rw [if_neg (fun q => by have := (i64lt ha ha).mp q; omega), if_pos rfl]
    exact ⟨fun _ => rfl, fun _ => rfl⟩
  · have c1 : ¬ Int64.ofNat a = Int64.ofNat b := fun q => c ((i64eq ha hb).mp q)
    refine ⟨fun q => ?_, fun q => absurd q c⟩
    by_cases d : Int64.ofNat a > Int64.ofNat b
    · rw [if_pos d] at q
      exact absurd q (by decide)
    · rw [if_neg d, if_neg c1] at q
      exact absurd q (by decide)
section SCN
variable {N : Nat} {X : Nat → Option zz_C} {t : cS} {b : Nat → Nat} {n x1 : Nat} {L : List (Int32 × Int32 × Int64)}
theorem c_numberOf {ls : List Nat} (hN : 170000 ≤ N) (hX : oX N X) (ho : okL ls) (h8 : ls.length ≤ 8) : cf_247 N X (Int64.ofNat (evB 32 ls)) t = some (t, .inl (some (.int (match wix ls with
  | some i => Int32.ofNat i
  | none => -1)))) := by
  obtain ⟨x1, x2, -⟩ := hX
  have hv := evB_32 ho h8
  have step : ∀ i q, i < 41 → ¬ wd i = ls → cf_247_L2 N X (q + 1) 0 (Int64.ofNat (evB 32 ls)) (Int32.ofNat i) t = cf_247_L2 N X q 0 (Int64.ofNat (evB 32 ls)) (Int32.ofNat (i + 1)) t := fun i q hi hne => by
    show cf_247_2 N X (cf_247_L2 N X q) (Int64.ofNat (evB 32 ls)) (Int32.ofNat i) t = _
    obtain ⟨y1, y2⟩ := x2 i hi
    obtain ⟨w1, w2⟩ := wd_ok i hi
    have hw := evB_32 w1 w2
    have hne2 : ¬ evB 32 (wd i) = evB 32 ls := fun e => hne (evB_inj (by decide) w1 ho e)
    unfold cf_247_2 cf_247_10 cf_247_25
    simp (disch := omega) only [ev_S, ev_C, ev_b, ↓reduceIte, Nat.reduceEqDiff, l32_0, l32_1, x1, y1, y2, lg_eq0, hne2]
  cases hw : wix ls with
  | some i =>
    obtain ⟨hi, he⟩ := wix_some hw
    have go : ∀ d j q, j + d = i → cf_247_L2 N X (q + (d + 1)) 0 (Int64.ofNat (evB 32 ls)) (Int32.ofNat j) t = some (t, .inl (some (.int (Int32.ofNat i)))) := by
      intro d
      induction d with
      | zero =>
        intro j q hj
        have hj : j = i := hj
        subst hj
        show cf_247_2 N X (cf_247_L2 N X q) (Int64.ofNat (evB 32 ls)) (Int32.ofNat j) t = _
        obtain ⟨y1, y2⟩ := x2 j hi
        rw [he] at y2
        have e9 : evB 32 ls = evB 32 ls := rfl
        unfold cf_247_2 cf_247_10 cf_247_23
        simp (disch := omega) only [ev_S, ev_C, ev_b, ↓reduceIte, Nat.reduceEqDiff, l32_0, l32_1, x1, y1, y2, lg_eq0]
      | succ d ih =>
        intro j q hj
        rw [← Nat.add_assoc, step j _ (by omega) (fun e => by
          have := wd_inj j i (by omega) hi (e.trans he.symm)
          omega)]
        exact ih (j + 1) q (by omega)
    have e := go i 0 (N - (i + 1)) (Nat.zero_add _)
    rw [show N - (i + 1) + (i + 1) = N by omega] at e
    exact e
  | none =>
    have hn := wix_none hw
    have go : ∀ d j q, j + d = 41 → cf_247_L2 N X (q + (d + 1)) 0 (Int64.ofNat (evB 32 ls)) (Int32.ofNat j) t = some (t, .inl (some (.int (-1)))) := by
      intro d
      induction d with
      | zero =>
        intro j q hj
        have hj : j = 41 := hj
        subst hj
        show cf_247_2 N X (cf_247_L2 N X q) (Int64.ofNat (evB 32 ls)) (Int32.ofNat 41) t = _
        unfold cf_247_2 cf_247_31
        simp (disch := omega) only [ev_S, ev_C, ev_b, ↓reduceIte, Nat.reduceEqDiff, l32_0, l32_1, x1]
      | succ d ih =>
        intro j q hj
        rw [← Nat.add_assoc, step j _ (by omega) (hn j (by omega))]
        exact ih (j + 1) q (by omega)
    have e := go 41 0 (N - 42) rfl
    rw [show N - 42 + (41 + 1) = N by omega] at e
    exact e
theorem cTx.keep {t' : cS} {E : Nat → Nat → Prop} {A : Nat → Prop} (h : cTx t x1 b n) (g : gL E A t t') (hA : ¬ A 1) : cTx t' x1 b n := by
  obtain ⟨h1, h2, h3, h4, h5, h6⟩ := h
  obtain ⟨a1, -, a3⟩ := g.2.2.1 1 hA (by decide)
  exact ⟨by rw [a3]; exact h1, by rw [a1]; exact h2, by rw [a1]; exact h3, h4, h5, by rw [a1]; exact h6⟩
/-- where the text goes on behind a token -/
def nx (k : Tk) : Int32 := if k.1 ≤ 1 then -1 else Int32.ofNat k.2.2.2.2
theorem c_scanWord {a : Nat} (hN : 170000 ≤ N) (hX : oX N X) (h : cTx t x1 b n) (h3 : cT3 t L) (hl : L.length < 6500) (ha : a < n) : ∃ t', cf_245 N X x1 (Int32.ofNat n) (Int32.ofNat a) t = some (t', .inl (some (.int (nx (tkW a (wrd b n (n - a) a [])))))) ∧ cT3 t' (L ++ [c3 (tkW a (wrd b n (n - a) a []))]) ∧ gL eTk aTk t t' := by
  have h4 := h.2.2.2.1
  have w := c_wrd (N := N) (X := X) h (fr := a) (n - a) a (N - (n - a + 1)) [] (by omega)
  rw [show N - (n - a + 1) + (n - a + 1) = N by omega] at w
  obtain ⟨o1, o2, o3, o4⟩ := wrd_ok (b := b) (n := n) (n - a) a [] (fun d hd => (List.not_mem_nil hd).elim)
  have o4 : (wrd b n (n - a) a []).2.length + a = (wrd b n (n - a) a []).1 := o4
  generalize wrd b n (n - a) a [] = P at *
  have st : cf_245 N X x1 (Int32.ofNat n) (Int32.ofNat a) t = cf_245_54 N X (Int32.ofNat a) (Int64.ofNat (evB 32 P.2)) (Int32.ofNat P.1) t := w
  rw [st]
  have es : P.1 - a = P.2.length := by omega
  unfold tkW
  by_cases c8 : P.2.length ≤ 8
  · rw [if_pos c8]
    have nm := c_numberOf (N := N) (X := X) (t := t) hN hX o1 c8
    unfold c3 nx
    rw [if_pos rfl, if_neg (show ¬ 3 ≤ 1 by decide)]
    cases hw : wix P.2 with
    | some i =>
      rw [hw] at nm
      have hi := (wix_some hw).1
      have nm : cf_247 N X (Int64.ofNat (evB 32 P.2)) t = some (t, .inl (some (.int (Int32.ofNat i)))) := nm
      obtain ⟨t', a1, a2, a3⟩ := c_tput (N := N) (X := X) (k := Int32.ofNat 4) (a := Int32.ofNat a) (v := Int32.toInt64 (Int32.ofNat i)) h3 hl
      refine ⟨t', ?_, a2, a3⟩
      unfold cf_245_54 cf_245_72 cf_245_77 cf_245_96 cf_245_105
      simp (disch := omega) only [ev_S, ev_C, ↓reduceIte, Nat.reduceEqDiff, Nat.reduceLeDiff, Nat.reduceAdd, Nat.reduceMul, Nat.reduceSub, reduceCtorEq, l32_0, l32_1, l32_2, l32_3, l32_4, l32_5, l32_6, l32_7, l32_8, l32_9, l32_10, es, nm, a1]
    | none =>
      rw [hw] at nm
      have nm : cf_247 N X (Int64.ofNat (evB 32 P.2)) t = some (t, .inl (some (.int (-Int32.ofNat 1)))) := nm
      obtain ⟨t', a1, a2, a3⟩ := c_tput (N := N) (X := X) (k := Int32.ofNat 3) (a := Int32.ofNat a) (v := Int64.ofNat (evB 32 P.2)) h3 hl
      refine ⟨t', ?_, a2, a3⟩
      unfold cf_245_54 cf_245_72 cf_245_77 cf_245_85 cf_245_93 cf_245_105
      simp (disch := omega) only [ev_S, ev_C, ↓reduceIte, Nat.reduceEqDiff, Nat.reduceLeDiff, Nat.reduceAdd, Nat.reduceMul, Nat.reduceSub, reduceCtorEq, l32_0, l32_1, l32_2, l32_3, l32_4, l32_5, l32_6, l32_7, l32_8, l32_9, l32_10, es, nm, a1]
  · rw [if_neg c8]
    obtain ⟨t', a1, a2, a3⟩ := c_tput (N := N) (X := X) (k := Int32.ofNat 1) (a := Int32.ofNat a) (v := 0) h3 hl
    refine ⟨t', ?_, a2, a3⟩
    show cf_245_54 N X (Int32.ofNat a) (Int64.ofNat (evB 32 P.2)) (Int32.ofNat P.1) t = some (t', .inl (some (.int (-1))))
    unfold cf_245_54 cf_245_63 cf_245_70
    simp (disch := omega) only [ev_S, ev_C, ↓reduceIte, Nat.reduceEqDiff, Nat.reduceLeDiff, Nat.reduceAdd, Nat.reduceMul, Nat.reduceSub, reduceCtorEq, l32_0, l32_1, l32_2, l32_3, l32_4, l32_5, l32_6, l32_7, l32_8, l32_9, l32_10, es, a1]
theorem c_scanNumber {a : Nat} (hN : 170000 ≤ N) (h : cTx t x1 b n) (h3 : cT3 t L) (hl : L.length < 6500) (ha : a < n) : ∃ t', cf_246 N X x1 (Int32.ofNat n) (Int32.ofNat a) t = some (t', .inl (some (.int (nx (tkN a (nmb b n (n - a) a 0)))))) ∧ cT3 t' (L ++ [c3 (tkN a (nmb b n (n - a) a 0))]) ∧ gL eTk aTk t t' := by
  have h4 := h.2.2.2.1
  have w := c_nmb (N := N) (X := X) h (fr := a) (n - a) a (N - (n - a + 1)) 0 (by omega)
  rw [show N - (n - a + 1) + (n - a + 1) = N by omega] at w
  obtain ⟨d, o1, o2, o3⟩ := nmb_ok (b := b) (n := n) (n - a) a 0 0 (by decide)
  generalize nmb b n (n - a) a 0 = P at *
  have st : cf_246 N X x1 (Int32.ofNat n) (Int32.ofNat a) t = cf_246_54 N X (Int32.ofNat a) (Int64.ofNat P.2) (Int32.ofNat P.1) t := w
  rw [st]
  have oe : P.1 - a = d := by omega
  unfold tkN
  by_cases c10 : d ≤ 10
  · have p10 : (10 : Nat) ^ (0 + d) ≤ 10 ^ 10 := Nat.pow_le_pow_right (by decide) (by omega)
    have e10 : (10 : Nat) ^ 10 = 10000000000 := by decide
    have hv10 : P.2 < 10000000000 := by omega
    by_cases cm : P.2 ≤ 2147483647
    · rw [if_pos ⟨by omega, cm⟩]
      obtain ⟨t', a1, a2, a3⟩ := c_tput (N := N) (X := X) (k := Int32.ofNat 2) (a := Int32.ofNat a) (v := Int64.ofNat P.2) h3 hl
      refine ⟨t', ?_, a2, a3⟩
      show cf_246_54 N X (Int32.ofNat a) (Int64.ofNat P.2) (Int32.ofNat P.1) t = some (t', .inl (some (.int (Int32.ofNat P.1))))
      unfold cf_246_54 cf_246_63 cf_246_81 cf_246_89
      simp (disch := omega) only [ev_S, ev_C, ↓reduceIte, Nat.reduceEqDiff, Nat.reduceLeDiff, Nat.reduceAdd, Nat.reduceMul, Nat.reduceSub, reduceCtorEq, l32_0, l32_1, l32_2, l32_3, l32_4, l32_5, l32_6, l32_7, l32_8, l32_9, l32_10, oe, l64_mx, lg_le, a1]
    · rw [if_neg (fun q => cm q.2)]
      obtain ⟨t', a1, a2, a3⟩ := c_tput (N := N) (X := X) (k := Int32.ofNat 1) (a := Int32.ofNat a) (v := 0) h3 hl
      refine ⟨t', ?_, a2, a3⟩
      show cf_246_54 N X (Int32.ofNat a) (Int64.ofNat P.2) (Int32.ofNat P.1) t = some (t', .inl (some (.int (-1))))
      unfold cf_246_54 cf_246_63 cf_246_72 cf_246_79
      simp (disch := omega) only [ev_S, ev_C, ↓reduceIte, Nat.reduceEqDiff, Nat.reduceLeDiff, Nat.reduceAdd, Nat.reduceMul, Nat.reduceSub, reduceCtorEq, l32_0, l32_1, l32_2, l32_3, l32_4, l32_5, l32_6, l32_7, l32_8, l32_9, l32_10, oe, l64_mx, lg_le, a1]
  · rw [if_neg (by omega)]
    obtain ⟨t', a1, a2, a3⟩ := c_tput (N := N) (X := X) (k := Int32.ofNat 1) (a := Int32.ofNat a) (v := 0) h3 hl
    refine ⟨t', ?_, a2, a3⟩
    show cf_246_54 N X (Int32.ofNat a) (Int64.ofNat P.2) (Int32.ofNat P.1) t = some (t', .inl (some (.int (-1))))
    unfold cf_246_54 cf_246_72 cf_246_79
    simp (disch := omega) only [ev_S, ev_C, ↓reduceIte, Nat.reduceEqDiff, Nat.reduceLeDiff, Nat.reduceAdd, Nat.reduceMul, Nat.reduceSub, reduceCtorEq, l32_0, l32_1, l32_2, l32_3, l32_4, l32_5, l32_6, l32_7, l32_8, l32_9, l32_10, oe, a1]
theorem c_scanOne {a : Nat} (hN : 170000 ≤ N) (hX : oX N X) (h : cTx t x1 b n) (h3 : cT3 t L) (hl : L.length < 6500) (ha : a ≤ n) : ∃ t', cf_44 N X x1 (Int32.ofNat n) (Int32.ofNat a) t = some (t', .inl (some (.int (nx (tkA b n a))))) ∧ cT3 t' (L ++ [c3 (tkA b n a)]) ∧ gL eTk aTk t t' := by
  have h' := h
  obtain ⟨h1, h2, h2b, h4, h5, h6⟩ := h'
  unfold tkA
  by_cases c : a < n
  · rw [if_pos c]
    have hb := h5 a
    have hc := h6 a c
    by_cases cl : 97 ≤ b a ∧ b a ≤ 122
    · rw [if_pos cl]
      obtain ⟨t', a1, a2, a3⟩ := c_scanWord (N := N) (X := X) hN hX h h3 hl c
      refine ⟨t', ?_, a2, a3⟩
      rw [sb_l (by omega)] at hc
      obtain ⟨cl1, cl2⟩ := cl
      unfold cf_44 cf_44_0 cf_44_14 cf_44_26 cf_44_33 cf_44_40
      simp (disch := omega) only [ev_S, ev_C, ↓reduceIte, Nat.reduceEqDiff, Nat.reduceLeDiff, Nat.reduceAdd, Nat.reduceMul, Nat.reduceSub, reduceCtorEq, l32_0, l32_1, l32_2, l32_3, l32_4, l32_5, l32_6, l32_7, l32_8, l32_9, l32_10, h1, hc, l32_97, l32_122, a1]
    · rw [if_neg cl]
      by_cases cd : 48 ≤ b a ∧ b a ≤ 57
      · rw [if_pos cd]
        obtain ⟨t', a1, a2, a3⟩ := c_scanNumber (N := N) (X := X) hN h h3 hl c
        refine ⟨t', ?_, a2, a3⟩
        rw [sb_l (by omega)] at hc
        obtain ⟨cd1, cd2⟩ := cd
        unfold cf_44 cf_44_0 cf_44_14 cf_44_41 cf_44_48 cf_44_55 cf_44_62
        simp (disch := omega) only [ev_S, ev_C, ↓reduceIte, Nat.reduceEqDiff, Nat.reduceLeDiff, Nat.reduceAdd, Nat.reduceMul, Nat.reduceSub, reduceCtorEq, l32_0, l32_1, l32_2, l32_3, l32_4, l32_5, l32_6, l32_7, l32_8, l32_9, l32_10, h1, hc, l32_97, l32_48, l32_57, a1]
      · rw [if_neg cd]
        obtain ⟨-, -, y1, y2, y3, y4⟩ := hX
        by_cases c8 : b a < 128
        · rw [sb_l c8] at hc
          -- up to the signs
          have st : cf_44 N X x1 (Int32.ofNat n) (Int32.ofNat a) t = cf_44_63 N X x1 (Int32.ofNat n) (Int32.ofNat a) (Int32.ofNat (b a)) t := by
            by_cases q1 : b a < 48
            · unfold cf_44 cf_44_0 cf_44_14 cf_44_41
              simp (disch := omega) only [ev_S, ev_C, ↓reduceIte, Nat.reduceEqDiff, Nat.reduceLeDiff, Nat.reduceAdd, Nat.reduceMul, Nat.reduceSub, reduceCtorEq, l32_0, l32_1, l32_2, l32_3, l32_4, l32_5, l32_6, l32_7, l32_8, l32_9, l32_10, h1, hc, l32_97, l32_48]
            · have q2 : 57 < b a := by omega
              by_cases q3 : b a < 97
              · unfold cf_44 cf_44_0 cf_44_14 cf_44_41 cf_44_48
                simp (disch := omega) only [ev_S, ev_C, ↓reduceIte, Nat.reduceEqDiff, Nat.reduceLeDiff, Nat.reduceAdd, Nat.reduceMul, Nat.reduceSub, reduceCtorEq, l32_0, l32_1, l32_2, l32_3, l32_4, l32_5, l32_6, l32_7, l32_8, l32_9, l32_10, h1, hc, l32_97, l32_48, l32_57]
              · have q4 : 122 < b a := by omega
                unfold cf_44 cf_44_0 cf_44_14 cf_44_26 cf_44_41 cf_44_48
                simp (disch := omega) only [ev_S, ev_C, ↓reduceIte, Nat.reduceEqDiff, Nat.reduceLeDiff, Nat.reduceAdd, Nat.reduceMul, Nat.reduceSub, reduceCtorEq, l32_0, l32_1, l32_2, l32_3, l32_4, l32_5, l32_6, l32_7, l32_8, l32_9, l32_10, h1, hc, l32_97, l32_48, l32_57, l32_122]
          rw [st]
          obtain ⟨r, r1, r2, r3⟩ := y3 t (b a) c8
          unfold tkS
          by_cases cs : isSg (b a)
          · obtain ⟨m, m1, m2⟩ := r2 cs
            subst m2
            have hrg := sg_rng cs
            obtain ⟨r', u1, u2, u3⟩ := y4 t (b a) c8
            have st2 : cf_44_63 N X x1 (Int32.ofNat n) (Int32.ofNat a) (Int32.ofNat (b a)) t = cf_44_96 N X x1 (Int32.ofNat n) (Int32.ofNat a) (Int32.ofNat (b a)) r' t := by
              unfold cf_44_63 cf_44_68 cf_44_76 cf_44_88
              simp (disch := omega) only [ev_S, ev_C, ↓reduceIte, Nat.reduceEqDiff, Nat.reduceLeDiff, Nat.reduceAdd, Nat.reduceMul, Nat.reduceSub, reduceCtorEq, l32_0, l32_1, l32_2, l32_3, l32_4, l32_5, l32_6, l32_7, l32_8, l32_9, l32_10, y1, y2, r1, u1]
            rw [st2]
            have e0 : ∀ k : Nat, 33 ≤ k → k < 512 → c3 (k, 0, [], a, a + 1) = (Int32.ofNat k, Int32.ofNat a, 0) ∧ c3 (k, 0, [], a, a + 2) = (Int32.ofNat k, Int32.ofNat a, 0) ∧ nx (k, 0, [], a, a + 1) = Int32.ofNat (a + 1) ∧ nx (k, 0, [], a, a + 2) = Int32.ofNat (a + 2) := fun k k1 k2 => by
              refine ⟨?_, ?_, if_neg ?_, if_neg ?_⟩
              · unfold c3
                rw [if_neg (by show ¬ k = 3; omega), if_neg (by show ¬ k = 2; omega)]
              · unfold c3
                rw [if_neg (by show ¬ k = 3; omega), if_neg (by show ¬ k = 2; omega)]
              · show ¬ k ≤ 1
                omega
              · show ¬ k ≤ 1
                omega
            have lone : cf_44_96 N X x1 (Int32.ofNat n) (Int32.ofNat a) (Int32.ofNat (b a)) r' t = cf_44_132 N X (Int32.ofNat a) (Int32.ofNat (b a)) t → ∃ t', cf_44_96 N X x1 (Int32.ofNat n) (Int32.ofNat a) (Int32.ofNat (b a)) r' t = some (t', .inl (some (.int (nx (b a, 0, [], a, a + 1))))) ∧ cT3 t' (L ++ [c3 (b a, 0, [], a, a + 1)]) ∧ gL eTk aTk t t' := fun e => by
              obtain ⟨f1, f2, f3, f4⟩ := e0 (b a) (by omega) (by omega)
              obtain ⟨t', a1, a2, a3⟩ := c_tput (N := N) (X := X) (k := Int32.ofNat (b a)) (a := Int32.ofNat a) (v := 0) h3 hl
              rw [f1, f3, e]
              refine ⟨t', ?_, a2, a3⟩
              unfold cf_44_132 cf_44_140
              simp (disch := omega) only [ev_S, ev_C, ↓reduceIte, Nat.reduceEqDiff, Nat.reduceLeDiff, Nat.reduceAdd, Nat.reduceMul, Nat.reduceSub, reduceCtorEq, l32_0, l32_1, l32_2, l32_3, l32_4, l32_5, l32_6, l32_7, l32_8, l32_9, l32_10, a1]
            by_cases ce : isEq (b a)
            · obtain ⟨m', m1', m2'⟩ := u2 ce
              subst m2'
              by_cases cn : a + 1 < n
              · have hc1 := h6 (a + 1) cn
                have hb1 := h5 (a + 1)
                by_cases c61 : b (a + 1) = 61
                · rw [if_pos ⟨eqB_iff.mpr ce, cn, c61⟩]
                  obtain ⟨f1, f2, f3, f4⟩ := e0 (b a + 256) (by omega) (by omega)
                  obtain ⟨t', a1, a2, a3⟩ := c_tput (N := N) (X := X) (k := Int32.ofNat (b a + 256)) (a := Int32.ofNat a) (v := 0) h3 hl
                  rw [f2, f4]
                  refine ⟨t', ?_, a2, a3⟩
                  rw [c61, sb_l (by decide)] at hc1
                  unfold cf_44_96 cf_44_99 cf_44_106 cf_44_116 cf_44_128
                  simp (disch := omega) only [ev_S, ev_C, ↓reduceIte, Nat.reduceEqDiff, Nat.reduceLeDiff, Nat.reduceAdd, Nat.reduceMul, Nat.reduceSub, reduceCtorEq, l32_0, l32_1, l32_2, l32_3, l32_4, l32_5, l32_6, l32_7, l32_8, l32_9, l32_10, h1, hc1, l32_61, l32_256, a1]
                · rw [if_neg (fun q => c61 q.2.2), if_pos (sgB_iff.mpr cs)]
                  refine lone ?_
                  by_cases d8 : b (a + 1) < 128
                  · rw [sb_l d8] at hc1
                    unfold cf_44_96 cf_44_99 cf_44_106
                    simp (disch := omega) only [ev_S, ev_C, ↓reduceIte, Nat.reduceEqDiff, Nat.reduceLeDiff, Nat.reduceAdd, Nat.reduceMul, Nat.reduceSub, reduceCtorEq, l32_0, l32_1, l32_2, l32_3, l32_4, l32_5, l32_6, l32_7, l32_8, l32_9, l32_10, h1, hc1, l32_61]
                  · rw [sb_g d8] at hc1
                    unfold cf_44_96 cf_44_99 cf_44_106
                    simp (disch := omega) only [ev_S, ev_C, ↓reduceIte, Nat.reduceEqDiff, Nat.reduceLeDiff, Nat.reduceAdd, Nat.reduceMul, Nat.reduceSub, reduceCtorEq, l32_0, l32_1, l32_2, l32_3, l32_4, l32_5, l32_6, l32_7, l32_8, l32_9, l32_10, h1, hc1, l32_61, ev_g5]
              · rw [if_neg (fun q => cn q.2.1), if_pos (sgB_iff.mpr cs)]
                refine lone ?_
                unfold cf_44_96 cf_44_99
                simp (disch := omega) only [ev_S, ev_C, ↓reduceIte, Nat.reduceEqDiff, Nat.reduceLeDiff, Nat.reduceAdd, Nat.reduceMul, Nat.reduceSub, reduceCtorEq, l32_0, l32_1, l32_2, l32_3, l32_4, l32_5, l32_6, l32_7, l32_8, l32_9, l32_10, h1]
            · rw [if_neg (fun q => ce (eqB_iff.mp q.1)), if_pos (sgB_iff.mpr cs)]
              refine lone ?_
              have := u3 ce
              subst this
              unfold cf_44_96
              simp (disch := omega) only [ev_S, ev_C, ↓reduceIte, Nat.reduceEqDiff, Nat.reduceLeDiff, Nat.reduceAdd, Nat.reduceMul, Nat.reduceSub, reduceCtorEq, l32_0, l32_1, l32_2, l32_3, l32_4, l32_5, l32_6, l32_7, l32_8, l32_9, l32_10, h1]
          · have := r3 cs
            subst this
            have ce : ¬ isEq (b a) := fun q => cs (by unfold isEq at q; unfold isSg; omega)
            rw [if_neg (fun q => ce (eqB_iff.mp q.1)), if_neg (fun q => cs (sgB_iff.mp q))]
            obtain ⟨t', a1, a2, a3⟩ := c_tput (N := N) (X := X) (k := Int32.ofNat 1) (a := Int32.ofNat a) (v := 0) h3 hl
            refine ⟨t', ?_, a2, a3⟩
            show cf_44_63 N X x1 (Int32.ofNat n) (Int32.ofNat a) (Int32.ofNat (b a)) t = some (t', .inl (some (.int (-1))))
            unfold cf_44_63 cf_44_68 cf_44_76 cf_44_79 cf_44_86
            simp (disch := omega) only [ev_S, ev_C, ↓reduceIte, Nat.reduceEqDiff, Nat.reduceLeDiff, Nat.reduceAdd, Nat.reduceMul, Nat.reduceSub, reduceCtorEq, l32_0, l32_1, l32_2, l32_3, l32_4, l32_5, l32_6, l32_7, l32_8, l32_9, l32_10, y1, r1, a1]
        · rw [sb_g c8] at hc
          unfold tkS
          have n1 : ¬ isSg (b a) := fun q => by have := sg_rng q; omega
          have n2 : ¬ isEq (b a) := fun q => by unfold isEq at q; omega
          rw [if_neg (fun q => n2 (eqB_iff.mp q.1)), if_neg (fun q => n1 (sgB_iff.mp q))]
          obtain ⟨t', a1, a2, a3⟩ := c_tput (N := N) (X := X) (k := Int32.ofNat 1) (a := Int32.ofNat a) (v := 0) h3 hl
          refine ⟨t', ?_, a2, a3⟩
          show cf_44 N X x1 (Int32.ofNat n) (Int32.ofNat a) t = some (t', .inl (some (.int (-1))))
          unfold cf_44 cf_44_0 cf_44_14 cf_44_41 cf_44_63 cf_44_79 cf_44_86
          simp (disch := omega) only [ev_S, ev_C, ↓reduceIte, Nat.reduceEqDiff, Nat.reduceLeDiff, Nat.reduceAdd, Nat.reduceMul, Nat.reduceSub, reduceCtorEq, l32_0, l32_1, l32_2, l32_3, l32_4, l32_5, l32_6, l32_7, l32_8, l32_9, l32_10, h1, hc, l32_97, l32_48, ev_g1, a1]
  · rw [if_neg c]
    have e : a = n := by omega
    subst e
    obtain ⟨t', a1, a2, a3⟩ := c_tput (N := N) (X := X) (k := Int32.ofNat 0) (a := Int32.ofNat a) (v := 0) h3 hl
    refine ⟨t', ?_, a2, a3⟩
    show cf_44 N X x1 (Int32.ofNat a) (Int32.ofNat a) t = some (t', .inl (some (.int (-1))))
    unfold cf_44 cf_44_0 cf_44_5 cf_44_12
    simp (disch := omega) only [ev_S, ev_C, ↓reduceIte, Nat.reduceEqDiff, Nat.reduceLeDiff, Nat.reduceAdd, Nat.reduceMul, Nat.reduceSub, reduceCtorEq, l32_0, l32_1, l32_2, l32_3, l32_4, l32_5, l32_6, l32_7, l32_8, l32_9, l32_10, a1]
end SCN
