/-! ===== PURE: run (118): a call ends (the reference); the run ends ===== -/
section LER
variable {N : Nat} {X : Nat → Option zz_C} {t0 t t1 t2 : cS} {s0 s s1 s2 : mS} {u w f p h fu m m' d d' n k b j : Nat} {code : List Ins} {Fs : List Fn} {T : Ty} {out : List Int32} {G F : List Fm} {sh S0 : Nat → Option Nod} {vs : List (Option Nod)} {I J : List It} {q z z' : Int32} {x : Nod} {v : Int64}
/-- the call is off -/
abbrev lvS (s : mS) (h : Nat) (code : List Ins) (G : List Fm) : mS := mI (mI (mI (mI s 73 (Int32.ofNat G.length)) 79 (Int32.ofNat (wStk G).length)) 51 (Int32.ofNat (rStk G).length)) 69 (rBk h code G)
theorem RXm.leave (R : RXm s0 s h code Fs fu f ((m, d, vs, I) :: G) sh T out) : RXm s0 (lvS s h code G) h code Fs fu f G sh T out := by
  obtain ⟨r1, ⟨b1, b2, b3, b4, b5, b6, b7, b8⟩, r3⟩ := R
  exact ⟨(((r1.I (by omega)).I (by omega)).I (by omega)).I (by omega), ⟨b1.app, rFr.loc (s := s) (fun _ _ _ _ _ => rfl) (fun _ _ => ⟨rfl, rfl⟩) (Nat.le_refl _) (fun _ _ => rfl) b2.2.2.2.2, b3.app, b4, b5, rfl, rfl, b8⟩, rfl⟩
theorem r_leave {nr : Nat} (R : RXm s0 s h code Fs fu f ((m, d, vs, I) :: G) sh T out) (hG : G.length ≤ 9) (h51 : s.1 51 = Int32.ofNat nr) (hn : nr < 9000) (e : mf_291 N (s.2.2.1 49 nr) (s.2.2.1 50 nr) (lvS s h code G) = some (s2, none)) : mf_314_260 N s = some (s2, none) := by
  obtain ⟨r1, ⟨b1, ⟨c1, c2, c3, c4, c5⟩, b3, b4, b5, b6, b7, b8⟩, r3⟩ := R
  have b6 : s.1 73 = Int32.ofNat (G.length + 1) := b6
  have sb : Int32.ofNat (G.length + 1) - Int32.ofNat 1 = Int32.ofNat G.length := by rw [← Int32.ofNat_sub _ _ (by omega)]; rfl
  clear r1 b1 c4 c5 b3 b4 b5 b7 b8 r3
  unfold lvS at e
  generalize (rStk G).length = nr' at *
  generalize (wStk G).length = nw' at *
  generalize rBk h code G = rb at *
  generalize G.length = ng at *
  unfold mf_314_260 mf_314_337
  simp (disch := omega) only [ev_S, ev_P, ↓reduceIte, Nat.reduceEqDiff, Nat.reduceLeDiff, Nat.reduceAdd, Nat.reduceMul, Nat.reduceSub, reduceCtorEq, l32_0, l32_1, l32_2, l32_3, l32_4, l32_5, l32_6, l32_7, l32_8, l32_9, l32_10, l32_11, l32_12, l32_13, l32_14, l32_15, l32_16, l32_17, l32_18, l32_19, l32_20, l32_21, l32_22, l32_23, l32_24, l32_25, l32_26, l32_27, l32_28, l32_29, l32_33, l32_40, l32_41, l32_44, l32_45, l32_59, l32_61, l32_91, l32_93, l32_123, l32_125, h51, b6, sb, c1, c2, c3, e]
/-- the outermost call gave -/
theorem fin_ok (C : CX t0 t p code Fs fu S0 u w [] sh T out) (hu : u ≤ 200000) (R : RXm s0 s h code Fs fu f [] sh T out) (hf : f ≤ 160000) (hx : cN (cel t) u v x) (hw : wfN x ∧ x.1 ≤ 4) (hs : ∀ i, i < 8 → ∀ x, sh i = some x → wfN x ∧ x.1 ≤ 4) (hr : rvl (s.2.2.1 47) f z z' x) (ho : out.length ≤ 200000000) : ∃ t5 s5, cf_165 N X v t = some (t5, .inl none) ∧ mf_291 N z z' s = some (s5, none) ∧ kI t5 49 11 = Int32.ofNat 0 ∧ s5.1 73 = Int32.ofNat 0 ∧ s5.1 66 = Int32.ofNat 0 ∧ FIN t0 (jI t5 49 18 (Int32.ofNat 0)) s0 s5 S0 := by
  have hm := C.cy.mOK
  obtain ⟨⟨a1, ⟨b1, b2, b3, b4, b5⟩, a3, a4, a5, a6⟩, ⟨z1, z2, z3, z4, z5, z6, z7, z8⟩, c3, c4⟩ := C
  obtain ⟨r1, ⟨m1, m2, m3, m4, m5, m6, m7, m8⟩, r3⟩ := R
  obtain ⟨q0, ⟨q1, q2, q3, q4, q5⟩, ⟨q6, q7⟩, q8, q9⟩ := r1
  obtain ⟨t5, e1, e2, e3, e4, e5⟩ := c_push (N := N) (X := X) (v := v) (o := some x) c3 z1 c4 (Nat.zero_le _) hx
  have r3 : s.1 51 = Int32.ofNat 0 := r3
  have hp := r_psh (N := N) (k := z) (v := z') r3 (by omega)
  have g18 : gf e89 aNo t5 (jI t5 49 18 (Int32.ofNat 0)) := g89 (Or.inr rfl)
  have gA : ∀ k, ¬ k = 52 → ¬ k = 111 → kA t5 k = kA t k ∧ kB t5 k = kB t k := fun k k1 k2 => by
    have := e4.2.2.2.1 k k1 k2
    exact ⟨this.1, this.2.1⟩
  have gI : ∀ k f, ¬ (k = 49 ∧ f = 8) → kI t5 k f = kI t k f := fun k f r => e4.1 k f r
  have ec : cel t5 = cel t := by unfold cel; rw [(gA 43 (by omega) (by omega)).2]
  refine ⟨t5, _, e1, hp, by rw [gI 49 11 (by omega)]; exact z7, m6, q6, ?_⟩
  refine ⟨?_, ?_, ?_, ⟨out, ?_, ?_, ho⟩, ⟨?_, ?_, ?_, ?_, ?_, ?_, ?_⟩, Or.inr ⟨q6, u, w, f, sh, x, ?_, hu, hf, m8, ?_, ⟨?_, hw⟩, ?_, fun i hi => ⟨?_, ?_, ?_, ?_, hs i hi⟩⟩⟩
  · refine (a6.tr2 (e4.mono2 (fun k f q => ?_) (fun k q => ?_))).tr2 (g18.mono2 (fun k f q => ?_) (fun k q => q.elim))
    · have := q.1
      show k = 42 ∨ k = 45 ∨ (k = 48 ∧ ¬ f = 0) ∨ k = 49 ∨ k = 58
      omega
    · have q : k = 52 := q
      show 43 ≤ k ∧ k ≤ 60
      omega
    · show k = 42 ∨ k = 45 ∨ (k = 48 ∧ ¬ f = 0) ∨ k = 49 ∨ k = 58
      omega
  · refine q9.tr ⟨⟨fun k r => ?_, fun _ _ => rfl, fun k r => ?_, fun _ _ => rfl⟩, fun _ _ => rfl⟩
    · unfold iRn at r
      exact if_neg (by omega)
    · unfold aRn at r
      show (if k = 50 then _ else if k = 49 then _ else s.2.2.1 k) = _
      rw [if_neg (by omega), if_neg (by omega)]
  · obtain ⟨n1, n2, n3⟩ := hm
    refine ⟨?_, ⟨e2.2.2.1, e2.2.2.2⟩, ?_⟩
    · show (kA t5 53).1 = 10 ∧ (kA t5 54).1 = 10 ∧ (kB t5 50).1 = 8 ∧ (kA t5 51).1 = 8 ∧ (kA t5 60).1 = 64
      rw [(gA 53 (by omega) (by omega)).1, (gA 54 (by omega) (by omega)).1, (gA 50 (by omega) (by omega)).2, (gA 51 (by omega) (by omega)).1, (gA 60 (by omega) (by omega)).1]
      exact n1
    · show (kA t5 56).1 = (kA t5 55).1 ∧ (kA t5 57).1 = (kA t5 55).1 ∧ 1 ≤ (kA t5 55).1 ∧ (kA t5 55).1 ≤ 1000
      rw [(gA 55 (by omega) (by omega)).1, (gA 56 (by omega) (by omega)).1, (gA 57 (by omega) (by omega)).1]
      exact n3
  · exact (a4.keep2 e4 (by intro q; have := q.1; omega) (by show ¬ (46 : Nat) = 52; decide) (by show ¬ (47 : Nat) = 52; decide)).keep2 g18 (by decide) (fun q => q) (fun q => q)
  · exact q8
  · show kI t5 48 6 = s.1 66
    rw [gI 48 6 (by omega), a3.1, q6]
  · show kI t5 48 7 = s.1 67
    rw [gI 48 7 (by omega), a3.2.1, q7]
  · show kI t5 48 8 = (if s.1 66 = 9 then s.1 65 else 0)
    rw [gI 48 8 (by omega), a3.2.2, q6]
    rfl
  · show kI t5 48 2 = s.1 60
    rw [gI 48 2 (by omega), b2, q2]
  · show kI t5 48 3 = s.1 62
    rw [gI 48 3 (by omega), b3, q3]
  · show kI t5 48 4 = s.1 63
    rw [gI 48 4 (by omega), b4, q4]
  · show kI t5 48 5 = s.1 64
    rw [gI 48 5 (by omega), b5, q5]
  · exact g18.hp e5 (by decide) (by decide) (fun q => q) (fun q => q) (fun q => q)
  · exact e3
  · exact e2.1.1
  · exact hr
  · show cC (cel t5) u ((kB t5 50).2 i) (sh i)
    rw [ec, (gA 50 (by omega) (by omega)).2]
    exact (z6 i hi).1
  · show (kA t5 51).2 i = 0 ∨ (kA t5 51).2 i = 1
    rw [(gA 51 (by omega) (by omega)).1]
    exact (z6 i hi).2.1
  · show (kA t5 51).2 i = 0 → sh i = S0 i
    rw [(gA 51 (by omega) (by omega)).1]
    exact (z6 i hi).2.2
  · exact m4 i hi
end LER
