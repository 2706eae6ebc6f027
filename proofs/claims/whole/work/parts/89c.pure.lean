/-! ===== PURE: the class's tokens ===== -/
/-- the words that are no names, the last letter first -/
def wdL : List (List Nat) := [[14, 6], [6, 9], [5, 19, 12, 5], [5, 12, 9, 8, 23], [18, 15, 6], [14, 9], [25, 1, 19], [14, 18, 21, 20, 5, 18], [5, 19, 9, 1, 18], [25, 18, 20], [14, 15], [23, 15, 18], [1, 20, 15, 9], [11, 3, 1, 16], [4, 9, 18, 7], [19, 23, 15, 18], [24, 15, 2], [5, 26, 9, 19], [19, 8, 20, 4, 9, 23], [4, 14, 9, 11], [13, 21, 19], [24, 1, 13], [14, 9, 13], [14, 1, 3, 19], [20, 18, 15, 19], [5, 4, 1, 18, 7], [11, 3, 1, 2], [20, 1, 12, 6], [14, 18, 21, 20], [16, 21, 15, 18, 7], [14, 9, 15, 10], [5, 11, 1, 20], [16, 15, 18, 4], [20, 21, 3], [11, 3, 9, 16], [4, 14, 9, 6], [4, 1, 16], [18, 5, 20, 21, 15], [5, 13, 1, 19], [8, 3, 1, 5], [4, 12, 15, 6]]
abbrev wd (i : Nat) : List Nat := wdL.getD i []
theorem wd_ok : ∀ i, i < 41 → okL (wd i) ∧ (wd i).length ≤ 8 := by
  have h : ∀ i : Fin 41, (wd i.1).all (fun d => decide (1 ≤ d ∧ d ≤ 26)) = true ∧ (wd i.1).length ≤ 8 := by decide
  intro i hi
  obtain ⟨h1, h2⟩ := h ⟨i, hi⟩
  exact ⟨fun d hd => of_decide_eq_true (List.all_eq_true.mp h1 d hd), h2⟩
theorem wd_inj : ∀ i j, i < 41 → j < 41 → wd i = wd j → i = j := by
  have h : ∀ i j : Fin 41, wd i.1 = wd j.1 → i.1 = j.1 := by decide
  exact fun i j hi hj e => h ⟨i, hi⟩ ⟨j, hj⟩ e
/-- what lies outside: the words' letters, and the two strings of signs -/
def oX (N : Nat) (X : Nat → Option zz_C) : Prop := hlen X [] (zz_out + 42) = some (Int32.ofNat 41) ∧ (∀ i, i < 41 → har X [] (zz_out + 42) (Int32.ofNat i) = some (zz_out + (i + 1)) ∧ hgl X [] (zz_out + (i + 1)) 20 0 = some (Int64.ofNat (evB 32 (wd i)))) ∧ hcl X [] (zz_out + 44) 21 = true ∧ hcl X [] (zz_out + 45) 21 = true ∧ (∀ (t : cS) (c : Nat), c < 128 → ∃ r : Int32, cf_359 N X (zz_out + 44) (UInt32.toInt32 (Int32.toUInt32 (Int32.ofNat c) % 65536)) t = some (t, .inl (some (.int r))) ∧ (isSg c → ∃ m : Nat, m < 100 ∧ r = Int32.ofNat m) ∧ (¬ isSg c → r = -Int32.ofNat 1)) ∧ (∀ (t : cS) (c : Nat), c < 128 → ∃ r : Int32, cf_359 N X (zz_out + 45) (UInt32.toInt32 (Int32.toUInt32 (Int32.ofNat c) % 65536)) t = some (t, .inl (some (.int r))) ∧ (isEq c → ∃ m : Nat, m < 100 ∧ r = Int32.ofNat m) ∧ (¬ isEq c → r = -Int32.ofNat 1))
/-- how often load's arrays have been made longer, and what that took -/
def potL (t : cS) : Nat := lgc (kA t 4).1 + lgc (kA t 5).1 + lgc (kB t 6).1 + lgc (kA t 8).1 + lgc (kB t 9).1 + lgc (kA t 10).1 + lgc (kA t 11).1 + lgc (kA t 13).1 + lgc (kA t 14).1 + lgc (kA t 15).1 + lgc (kA t 22).1 + lgc (kA t 23).1 + lgc (kA t 24).1
def poqL (t : cS) : Nat := 2 * (kA t 4).1 + 2 * (kA t 5).1 + 2 * (kB t 6).1 + 2 * (kA t 8).1 + 2 * (kB t 9).1 + 2 * (kA t 10).1 + 2 * (kA t 11).1 + 2 * (kA t 13).1 + 2 * (kA t 14).1 + 2 * (kA t 15).1 + 2 * (kA t 22).1 + 2 * (kA t 23).1 + 2 * (kA t 24).1
def rmG (t : cS) : Prop := kN t + 400 < zz_out + potL t
theorem rmG.k {t : cS} (h : rmG t) : kN t + 100 < zz_out := by
  unfold rmG potL at h
  have a1 := lgc_le (kA t 4).1
  have a2 := lgc_le (kA t 5).1
  have a3 := lgc_le (kB t 6).1
  have a4 := lgc_le (kA t 8).1
  have a5 := lgc_le (kB t 9).1
  have a6 := lgc_le (kA t 10).1
  have a7 := lgc_le (kA t 11).1
  have a8 := lgc_le (kA t 13).1
  have a9 := lgc_le (kA t 14).1
  have a10 := lgc_le (kA t 15).1
  have a11 := lgc_le (kA t 22).1
  have a12 := lgc_le (kA t 23).1
  have a13 := lgc_le (kA t 24).1
  omega
/-- what load's steps leave -/
def gL (E : Nat → Nat → Prop) (A : Nat → Prop) (t t' : cS) : Prop := (∀ k f, ¬ E k f → kI t' k f = kI t k f) ∧ (∀ k f, ¬ (k = 2 ∧ f = 1 ∧ E 2 1) → kP t' k f = kP t k f) ∧ (∀ k, ¬ A k → k ≠ 111 → kA t' k = kA t k ∧ kB t' k = kB t k ∧ kD t' k = kD t k) ∧ kM t' = kM t ∧ kH t' = kH t ∧ kN t ≤ kN t' ∧ kN t' + potL t ≤ kN t + potL t' ∧ kQ t' + poqL t ≤ kQ t + poqL t'
section GL
variable {E E' : Nat → Nat → Prop} {A A' : Nat → Prop} {t t1 t2 t' : cS}
theorem gL.rf : gL E A t t := ⟨fun _ _ _ => rfl, fun _ _ _ => rfl, fun _ _ _ => ⟨rfl, rfl, rfl⟩, rfl, rfl, Nat.le_refl _, Nat.le_refl _, Nat.le_refl _⟩
theorem gL.mono (h : gL E A t t') (hE : ∀ k f, E k f → E' k f) (hA : ∀ k, A k → A' k) : gL E' A' t t' := ⟨fun k f r => h.1 k f (fun z => r (hE k f z)), fun k f r => h.2.1 k f (fun z => r ⟨z.1, z.2.1, hE 2 1 z.2.2⟩), fun k r1 r2 => h.2.2.1 k (fun z => r1 (hA k z)) r2, h.2.2.2⟩
theorem gL.p21 (h : gL E A t t') (hE : ¬ E 2 1) : kP t' 2 1 = kP t 2 1 := h.2.1 2 1 (fun z => hE z.2.2)
theorem gL.tr (h : gL E A t t1) (g : gL E A t1 t2) : gL E A t t2 := by
  obtain ⟨a1, a2, a4, a5, a6, a8, a9, a10⟩ := h
  obtain ⟨b1, b2, b4, b5, b6, b8, b9, b10⟩ := g
  exact ⟨fun k f r => (b1 k f r).trans (a1 k f r), fun k f r => (b2 k f r).trans (a2 k f r), fun k r1 r3 => ⟨(b4 k r1 r3).1.trans (a4 k r1 r3).1, (b4 k r1 r3).2.1.trans (a4 k r1 r3).2.1, (b4 k r1 r3).2.2.trans (a4 k r1 r3).2.2⟩, b5.trans a5, b6.trans a6, by omega, by omega, by omega⟩
theorem gL.rm (h : gL E A t t') (r : rmG t) : rmG t' := by
  have := h.2.2.2.2.2.2.1
  unfold rmG at r ⊢
  omega
end GL
/-- the tokens that are kept -/
def cT3 (t : cS) (L : List (Int32 × Int32 × Int64)) : Prop := kI t 3 3 = Int32.ofNat L.length ∧ (∀ i (hi : i < L.length), (kA t 4).2 i = L[i].1 ∧ (kA t 5).2 i = L[i].2.1 ∧ (kB t 6).2 i = L[i].2.2) ∧ (kA t 5).1 = (kA t 4).1 ∧ (kB t 6).1 = (kA t 4).1 ∧ L.length ≤ (kA t 4).1 ∧ 1 ≤ (kA t 4).1 ∧ (kA t 4).1 < 13000 ∧ rmG t
abbrev eTk : Nat → Nat → Prop := fun k f => k = 3 ∧ f = 3
abbrev aTk : Nat → Prop := fun k => k = 4 ∨ k = 5 ∨ k = 6
section TPU
variable {N : Nat} {X : Nat → Option zz_C} {t : cS} {L : List (Int32 × Int32 × Int64)}
theorem get_app3 {v : Int32 × Int32 × Int64} {g4 g5 : Nat → Int32} {g6 : Nat → Int64} (h : ∀ i (hi : i < L.length), g4 i = L[i].1 ∧ g5 i = L[i].2.1 ∧ g6 i = L[i].2.2) (hv : g4 L.length = v.1 ∧ g5 L.length = v.2.1 ∧ g6 L.length = v.2.2) : ∀ i (hi : i < (L ++ [v]).length), g4 i = (L ++ [v])[i].1 ∧ g5 i = (L ++ [v])[i].2.1 ∧ g6 i = (L ++ [v])[i].2.2 := fun i hi => by
  rw [List.length_append] at hi
  have hi : i < L.length + 1 := hi
  by_cases c : i < L.length
  · rw [List.getElem_append_left c]
    exact h i c
  · have e : i = L.length := by omega
    subst e
    rw [List.getElem_append_right (Nat.le_refl _)]
    simp only [Nat.sub_self, List.getElem_cons_zero]
    exact hv
theorem c_tput {k a : Int32} {v : Int64} (h : cT3 t L) (hl : L.length < 6500) : ∃ t', cf_45 N X k a v t = some (t', .inl none) ∧ cT3 t' (L ++ [(k, a, v)]) ∧ gL eTk aTk t t' := by
  obtain ⟨h1, h2, h3, h4, h5, h6, h7, h8⟩ := h
  have ll : (L ++ [(k, a, v)]).length = L.length + 1 := List.length_append
  have hk9 := h8.k
  by_cases c : L.length = (kA t 4).1
  · have hl1 := lgc2 (a := (kA t 4).1) (b := 2 * L.length) h6 (by omega) (by omega)
    have hm : Nat.min L.length (2 * L.length) = L.length := Nat.min_eq_left (by omega)
    have c4 : (kA t 4).1 = L.length := c.symm
    have c5 : (kA t 5).1 = L.length := by omega
    have c6 : (kB t 6).1 = L.length := by omega
    obtain ⟨t1, ht1⟩ : ∃ t1, t1 = jMv (jNL (jMv (jNI (jMv (jNI t 1 (2 * L.length) (kcp 0 (kA t 4).2 L.length)) 4) 1 (2 * L.length) (kcp 0 (kA t 5).2 L.length)) 5) (2 * L.length) (kcp 0 (kB t 6).2 L.length)) 6 := ⟨_, rfl⟩
    have st : cf_45 N X k a v t = cf_45_63 N X k a v t1 := by
      rw [ht1]
      unfold cf_45 cf_45_0 cf_45_12 cf_45_29 cf_45_46
      simp (disch := omega) only [ev_S, ev_C, ↓reduceIte, Nat.reduceEqDiff, Nat.reduceLeDiff, Nat.reduceAdd, Nat.reduceMul, Nat.reduceSub, reduceCtorEq, l32_0, l32_1, l32_2, l32_3, l32_4, l32_5, l32_6, l32_7, l32_8, l32_9, l32_10, h1, c4, c5, c6, hm]
    have a4 : kA t1 4 = (2 * L.length, kcp 0 (kA t 4).2 L.length) := by rw [ht1]; rfl
    have a5 : kA t1 5 = (2 * L.length, kcp 0 (kA t 5).2 L.length) := by rw [ht1]; rfl
    have a6 : kB t1 6 = (2 * L.length, kcp 0 (kB t 6).2 L.length) := by rw [ht1]; rfl
    have aI : kI t1 3 3 = Int32.ofNat L.length := by rw [ht1]; exact h1
    have g1 : gL eTk aTk t t1 := by
      have e0 : kN t1 = kN t + 1 + 1 + 1 := by rw [ht1]; rfl
      have e1 : kQ t1 = kQ t + 2 * L.length + 2 * L.length + 2 * L.length := by rw [ht1]; rfl
      have e2 : potL t1 = lgc (2 * L.length) + lgc (2 * L.length) + lgc (2 * L.length) + lgc (kA t 8).1 + lgc (kB t 9).1 + lgc (kA t 10).1 + lgc (kA t 11).1 + lgc (kA t 13).1 + lgc (kA t 14).1 + lgc (kA t 15).1 + lgc (kA t 22).1 + lgc (kA t 23).1 + lgc (kA t 24).1 := by rw [ht1]; rfl
      have e3 : poqL t1 = 2 * (2 * L.length) + 2 * (2 * L.length) + 2 * (2 * L.length) + 2 * (kA t 8).1 + 2 * (kB t 9).1 + 2 * (kA t 10).1 + 2 * (kA t 11).1 + 2 * (kA t 13).1 + 2 * (kA t 14).1 + 2 * (kA t 15).1 + 2 * (kA t 22).1 + 2 * (kA t 23).1 + 2 * (kA t 24).1 := by rw [ht1]; rfl
      refine ⟨fun k f r => by rw [ht1]; rfl, fun k f r => by rw [ht1]; rfl, fun k r1 r2 => ?_, by rw [ht1]; rfl, by rw [ht1]; rfl, by omega, ?_, ?_⟩
      · have q4 : ¬ k = 4 := fun z => r1 (Or.inl z)
        have q5 : ¬ k = 5 := fun z => r1 (Or.inr (Or.inl z))
        have q6 : ¬ k = 6 := fun z => r1 (Or.inr (Or.inr z))
        rw [ht1]
        refine ⟨?_, ?_, ?_⟩
        · simp (disch := omega) only [ev_S, ev_C, ↓reduceIte, Nat.reduceEqDiff, Nat.reduceLeDiff, Nat.reduceAdd, Nat.reduceMul, Nat.reduceSub, reduceCtorEq, l32_0, l32_1, l32_2, l32_3, l32_4, l32_5, l32_6, l32_7, l32_8, l32_9, l32_10, q4, q5, q6, r2]
        · simp (disch := omega) only [ev_S, ev_C, ↓reduceIte, Nat.reduceEqDiff, Nat.reduceLeDiff, Nat.reduceAdd, Nat.reduceMul, Nat.reduceSub, reduceCtorEq, l32_0, l32_1, l32_2, l32_3, l32_4, l32_5, l32_6, l32_7, l32_8, l32_9, l32_10, q4, q5, q6, r2]
        · simp (disch := omega) only [ev_S, ev_C, ↓reduceIte, Nat.reduceEqDiff, Nat.reduceLeDiff, Nat.reduceAdd, Nat.reduceMul, Nat.reduceSub, reduceCtorEq, l32_0, l32_1, l32_2, l32_3, l32_4, l32_5, l32_6, l32_7, l32_8, l32_9, l32_10, q4, q5, q6, r2]
      · rw [e0, e2]
        unfold potL
        rw [c5, c6, c4]
        rw [c4] at hl1
        omega
      · rw [e1, e3]
        unfold poqL
        omega
    refine ⟨jI (jB (jA (jA t1 4 (upd (kcp 0 (kA t 4).2 L.length) L.length k)) 5 (upd (kcp 0 (kA t 5).2 L.length) L.length a)) 6 (vp_updL (kcp 0 (kB t 6).2 L.length) L.length v)) 3 3 (Int32.ofNat (L.length + 1)), ?_, ⟨by rw [ll]; rfl, ?_, ?_, ?_, ?_, ?_, ?_, ?_⟩, gL.tr (t1 := t1) g1 ⟨fun k f r => if_neg r, fun _ _ _ => rfl, fun k r1 r2 => ⟨?_, ?_, rfl⟩, rfl, rfl, Nat.le_refl _, Nat.le_refl _, Nat.le_refl _⟩⟩
    · rw [st]
      unfold cf_45_63
      simp (disch := omega) only [ev_S, ev_C, ↓reduceIte, Nat.reduceEqDiff, Nat.reduceLeDiff, Nat.reduceAdd, Nat.reduceMul, Nat.reduceSub, reduceCtorEq, l32_0, l32_1, l32_2, l32_3, l32_4, l32_5, l32_6, l32_7, l32_8, l32_9, l32_10, aI, a4, a5, a6]
    · refine get_app3 (fun i hi => ?_) ⟨if_pos rfl, if_pos rfl, if_pos rfl⟩
      obtain ⟨q1, q2, q3⟩ := h2 i hi
      refine ⟨?_, ?_, ?_⟩
      · show upd (kcp 0 (kA t 4).2 L.length) L.length k i = _
        rw [upd_n (by omega), kcp_lt hi]
        exact q1
      · show upd (kcp 0 (kA t 5).2 L.length) L.length a i = _
        rw [upd_n (by omega), kcp_lt hi]
        exact q2
      · show vp_updL (kcp 0 (kB t 6).2 L.length) L.length v i = _
        rw [updL_n (by omega), kcp_lt hi]
        exact q3
    · show (kA t1 5).1 = (kA t1 4).1
      rw [a4, a5]
    · show (kB t1 6).1 = (kA t1 4).1
      rw [a4, a6]
    · show _ ≤ (kA t1 4).1
      rw [a4, ll]
      show L.length + 1 ≤ 2 * L.length
      omega
    · show 1 ≤ (kA t1 4).1
      rw [a4]
      show 1 ≤ 2 * L.length
      omega
    · show (kA t1 4).1 < _
      rw [a4]
      show 2 * L.length < 13000
      omega
    · exact g1.rm h8
    · show (if k = 5 then _ else if k = 4 then _ else kA t1 k) = _
      rw [if_neg (fun z => r1 (Or.inr (Or.inl z))), if_neg (fun z => r1 (Or.inl z))]
    · show (if k = 6 then _ else kB t1 k) = _
      rw [if_neg (fun z => r1 (Or.inr (Or.inr z)))]
  · have c1 : L.length < (kA t 4).1 := by omega
    refine ⟨jI (jB (jA (jA t 4 (upd (kA t 4).2 L.length k)) 5 (upd (kA t 5).2 L.length a)) 6 (vp_updL (kB t 6).2 L.length v)) 3 3 (Int32.ofNat (L.length + 1)), ?_, ⟨by rw [ll]; rfl, ?_, h3, h4, by rw [ll]; exact c1, h6, h7, h8⟩, ⟨fun k f r => if_neg r, fun _ _ _ => rfl, fun k r1 r2 => ⟨?_, ?_, rfl⟩, rfl, rfl, Nat.le_refl _, Nat.le_refl _, Nat.le_refl _⟩⟩
    · unfold cf_45 cf_45_0 cf_45_63
      simp (disch := omega) only [ev_S, ev_C, ↓reduceIte, Nat.reduceEqDiff, Nat.reduceLeDiff, Nat.reduceAdd, Nat.reduceMul, Nat.reduceSub, reduceCtorEq, l32_0, l32_1, l32_2, l32_3, l32_4, l32_5, l32_6, l32_7, l32_8, l32_9, l32_10, h1, h3, h4]
    · refine get_app3 (fun i hi => ?_) ⟨if_pos rfl, if_pos rfl, if_pos rfl⟩
      obtain ⟨q1, q2, q3⟩ := h2 i hi
      refine ⟨?_, ?_, ?_⟩
      · show upd (kA t 4).2 L.length k i = _
        rw [upd_n (by omega)]
        exact q1
      · show upd (kA t 5).2 L.length a i = _
        rw [upd_n (by omega)]
        exact q2
      · show vp_updL (kB t 6).2 L.length v i = _
        rw [updL_n (by omega)]
        exact q3
    · show (if k = 5 then _ else if k = 4 then _ else kA t k) = _
      rw [if_neg (fun z => r1 (Or.inr (Or.inl z))), if_neg (fun z => r1 (Or.inl z))]
    · show (if k = 6 then _ else kB t k) = _
      rw [if_neg (fun z => r1 (Or.inr (Or.inr z)))]
end TPU
