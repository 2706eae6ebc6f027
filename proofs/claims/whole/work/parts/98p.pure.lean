/-! ===== PURE: run (93): both sides; a trouble ===== -/
def CS (t0 t : cS) (p : Nat) (code : List Ins) (Fs : List Fn) (fu : Nat) (S0 : Nat → Option Nod) (F : List Fm) (sh : Nat → Option Nod) (T : Ty) (out : List Int32) : Prop := ∃ u w, CX t0 t p code Fs fu S0 u w F sh T out ∧ u ≤ 100000 + 20 * T.2.1 ∧ ∀ a G, F = a :: G → kI t 49 17 = Int32.ofNat (posC code a.1 + a.2.1)
def RSm (s0 s : mS) (h : Nat) (code : List Ins) (Fs : List Fn) (fu : Nat) (F : List Fm) (sh : Nat → Option Nod) (T : Ty) (out : List Int32) : Prop := ∃ f, RXm s0 s h code Fs fu f F sh T out ∧ 154242 ≤ f ∧ f ≤ 154250 + T.2.1 ∧ ∀ a G, F = a :: G → s.1 69 = Int32.ofNat (ob0 h + posR code a.1 + a.2.1)
/-- the machine's arrays -/
def mOK (t : cS) : Prop := ((kA t 53).1 = 10 ∧ (kA t 54).1 = 10 ∧ (kB t 50).1 = 8 ∧ (kA t 51).1 = 8 ∧ (kA t 60).1 = 64) ∧ (1 ≤ (kB t 52).1 ∧ (kB t 52).1 ≤ 40000) ∧ (kA t 56).1 = (kA t 55).1 ∧ (kA t 57).1 = (kA t 55).1 ∧ 1 ≤ (kA t 55).1 ∧ (kA t 55).1 ≤ 1000
/-- how a run's acts end -/
def FIN (t0 t : cS) (s0 s : mS) (S0 : Nat → Option Nod) : Prop := gf eR aR t0 t ∧ fRn s0 s ∧ mOK t ∧ (∃ out, cOut t out ∧ rOut s out ∧ out.length ≤ 200000000) ∧ (kI t 48 6 = s.1 66 ∧ kI t 48 7 = s.1 67 ∧ kI t 48 8 = (if s.1 66 = 9 then s.1 65 else 0) ∧ kI t 48 2 = s.1 60 ∧ kI t 48 3 = s.1 62 ∧ kI t 48 4 = s.1 63 ∧ kI t 48 5 = s.1 64) ∧ ((∃ k : Nat, 0 < k ∧ k < 100 ∧ s.1 66 = Int32.ofNat k) ∧ (∃ u w, cHp t u w) ∨ (s.1 66 = Int32.ofNat 0 ∧ ∃ (u w f : Nat) (sh : Nat → Option Nod) (x : Nod), cHp t u w ∧ u ≤ 200000 ∧ f ≤ 160000 ∧ s.1 48 = Int32.ofNat f ∧ kI t 49 8 = Int32.ofNat 1 ∧ (cN (cel t) u ((kB t 52).2 0) x ∧ wfN x ∧ x.1 ≤ 4) ∧ rvl (s.2.2.1 47) f (s.2.2.1 49 0) (s.2.2.1 50 0) x ∧ (∀ i, i < 8 → cC (cel t) u ((kB t 50).2 i) (sh i) ∧ ((kA t 51).2 i = 0 ∨ (kA t 51).2 i = 1) ∧ ((kA t 51).2 i = 0 → sh i = S0 i) ∧ rvo (s.2.2.1 47) f (s.2.2.1 71 i) (s.2.2.1 72 i) (sh i) ∧ ∀ x, sh i = some x → wfN x ∧ x.1 ≤ 4)))
/-- what comes next -/
def GO (N : Nat) (X : Nat → Option zz_C) (t0 : cS) (s0 : mS) (p h : Nat) (code : List Ins) (Fs : List Fn) (fu : Nat) (S0 : Nat → Option Nod) (t : cS) (s : mS) (n : Nat) : Prop := (∃ k j t' s' F' sh' T' out', 1 ≤ k ∧ k ≤ 10 ∧ j ≤ k ∧ (∀ Q, cf_141_L4 N X (Q + k) 0 (Int32.ofNat n) t = cf_141_L4 N X Q 0 (Int32.ofNat (n + k)) t') ∧ (∀ Q x2, mf_68_L10 N (Q + j) 0 x2 s = mf_68_L10 N Q 0 x2 s') ∧ CS t0 t' p code Fs fu S0 F' sh' T' out' ∧ RSm s0 s' h code Fs fu F' sh' T' out' ∧ CK code Fs fu F' sh' T' out' (n + k)) ∨ (∃ k j t' s', k ≤ 10 ∧ j ≤ 10 ∧ (∀ Q, cf_141_L4 N X (Q + k) 0 (Int32.ofNat n) t = some (t', .inl none)) ∧ (∀ Q x2, mf_68_L10 N (Q + j) 0 x2 s = mf_68_320 N x2 s') ∧ FIN t0 t' s0 s' S0)
/-- where a trouble finds a call -/
def lt3 (a : Fm) : Prop := ∃ A B, a.2.2.2 = A ++ B ∧ plI B ∧ ∀ y ∈ A, ¬ y.1 = 3
section TRO
variable {N : Nat} {X : Nat → Option zz_C} {t0 t tf t1 t2 : cS} {s0 s sf s2 : mS} {u w f p h fu m m' d d' n k k0 j0 : Nat} {code : List Ins} {Fs : List Fn} {T T' : Ty} {out : List Int32} {F F' G P : List Fm} {sh sh' S0 : Nat → Option Nod} {vs : List (Option Nod)} {I J : List It} {a b : Fm} {q r pl : Int32}
theorem tro_a {u x : Nat} (h : u ≤ 100000 + 20 * x + 2100) : u ≤ 100000 + 20 * (x + 300) := by
  rw [Nat.mul_add, ← Nat.add_assoc]
  exact Nat.le_trans h (Nat.add_le_add_left (by decide) _)
theorem tro_b {f x : Nat} (h : f ≤ 154250 + x + 300) : f ≤ 154250 + (x + 300) := by
  rw [← Nat.add_assoc]
  exact h
theorem CY.mOK (h : CY t0 t p code Fs fu S0 u w F sh T out) : mOK t := by
  obtain ⟨-, ⟨a1, a2, a3, a4, a5, a6, a7, a8⟩, -⟩ := h
  exact ⟨a4, ⟨a1.2.2.1, a1.2.2.2⟩, a5.2⟩
theorem tyA.lt3 (h : tyA code a) : lt3 a := by
  obtain ⟨L, hL, ⟨-, -, hp⟩ | ⟨-, -, ⟨-, x, I, e, hx, -, hp⟩ | ⟨-, x, y, I, e, hx, hy, -, hp⟩⟩⟩ := h
  · exact ⟨[], _, rfl, hp, fun y hy => by cases hy⟩
  · refine ⟨[x], I, e, hp, fun y hy => ?_⟩
    rw [List.mem_singleton.mp hy]
    omega
  · refine ⟨[x, y], I, e, hp, fun z hz => ?_⟩
    rcases List.mem_cons.mp hz with q | q
    · rw [q]; omega
    · rw [List.mem_singleton.mp q]; omega
theorem tyS.lt3 (h : tyS code a) : lt3 a := by
  obtain ⟨L, hL, ⟨-, -, hp⟩ | ⟨-, ⟨-, x, I, e, hx, -, hp⟩ | ⟨-, x, y, I, e, hx, hy, -, hp⟩⟩⟩ := h
  · exact ⟨[], _, rfl, hp, fun y hy => by cases hy⟩
  · refine ⟨[x], I, e, hp, fun y hy => ?_⟩
    rw [List.mem_singleton.mp hy]
    omega
  · refine ⟨[x, y], I, e, hp, fun z hz => ?_⟩
    rcases List.mem_cons.mp hz with q | q
    · rw [q]; omega
    · rw [List.mem_singleton.mp q]; omega
theorem lt3.pli {x : It} (h : lt3 a) (e : a.2.2.2 = J ++ x :: I) (hx : x.1 = 3) : plI I := by
  obtain ⟨A, B, e1, hB, hA⟩ := h
  rw [e] at e1
  rcases List.append_eq_append_iff.mp e1 with ⟨C, c1, c2⟩ | ⟨C, c1, c2⟩
  · cases C with
    | nil =>
      rw [List.nil_append] at c2
      intro y hy
      exact hB y (by rw [← c2]; exact List.mem_cons_of_mem _ hy)
    | cons z C =>
      rw [List.cons_append] at c2
      cases c2
      exact absurd hx (hA x (by rw [c1]; exact List.mem_append_right _ List.mem_cons_self))
  · intro y hy
    exact hB y (by rw [c2]; exact List.mem_append_right _ (List.mem_cons_of_mem _ hy))
theorem crL_app : crL (J ++ I) = crL J + crL I := by
  unfold crL
  rw [List.map_append, List.sum_append]
theorem n5I_app : n5I (J ++ I) = n5I J + n5I I := by
  unfold n5I
  rw [List.map_append, List.sum_append]
theorem cr_suf : ∀ {P : List Fm}, cr G ≤ cr (P ++ G) ∧ n5 G ≤ n5 (P ++ G)
  | [] => ⟨Nat.le_refl _, Nat.le_refl _⟩
  | b :: P => by
    obtain ⟨h1, h2⟩ := cr_suf (P := P)
    refine ⟨?_, ?_⟩
    · show cr G ≤ 4 + crL b.2.2.2 + cr (P ++ G)
      omega
    · show n5 G ≤ n5I b.2.2.2 + n5 (P ++ G)
      omega
/-- what a trouble needs of the picture -/
def CKt (code : List Ins) (Fs : List Fn) (fu : Nat) (F : List Fm) (sh : Nat → Option Nod) (T : Ty) (out : List Int32) (n : Nat) : Prop := (PGc code Fs ∧ okTy fu T) ∧ F.length ≤ 10 ∧ (∀ a ∈ F, lt3 a ∧ inF code Fs a) ∧ (∀ a G, F = a :: G → tyT code Fs G) ∧ gdS (cStk F) ∧ (∀ i, i < 8 → ∀ x, sh i = some x → wfN x ∧ x.1 ≤ 4) ∧ n + cr F ≤ 20 * T.1 + 60 * T.2.1 + 17500 ∧ out.length + 9100 * n5 F ≤ 9100 * T.1 ∧ (cStk F).length ≤ 17500 ∧ (wStk F).length ≤ 399 ∧ (tStk F).length ≤ 500
theorem gdS_stV {r : Nat} {x : Nod} (h : gdS (cStk ((m, d, vs, I) :: G))) (hx : wfN x ∧ x.1 ≤ 4) : gdS (cStk ((m', d', stV r x vs, I) :: G)) := fun y hy => by
  have hy : some y ∈ cIt I ++ ((stV r x vs).reverse ++ cStk G) := hy
  have key : ∀ z : Option Nod, z ∈ stV r x vs → z ∈ vs ∨ z = some x := fun z hz => by
    unfold stV at hz
    split at hz
    · exact Or.inl hz
    · exact List.mem_or_eq_of_mem_set hz
  rcases List.mem_append.mp hy with q | q
  · exact h y (List.mem_append_left _ q)
  · rcases List.mem_append.mp q with q | q
    · rcases key _ (List.mem_reverse.mp q) with z | z
      · exact h y (List.mem_append_right _ (List.mem_append_left _ (List.mem_reverse.mpr z)))
      · cases z
        exact hx
    · exact h y (List.mem_append_right _ (List.mem_append_right _ q))
theorem stV_len {r : Nat} {x : Nod} : (stV r x vs).length = vs.length := by
  unfold stV
  split
  · rfl
  · rw [List.length_set]
theorem sh_stS {r : Nat} {x : Nod} (h : ∀ i, i < 8 → ∀ x, sh i = some x → wfN x ∧ x.1 ≤ 4) (hx : wfN x ∧ x.1 ≤ 4) : ∀ i, i < 8 → ∀ y, (if r < 8 then stS r x sh else sh) i = some y → wfN y ∧ y.1 ≤ 4 := fun i hi y hy => by
  by_cases c : r < 8
  · rw [if_pos c] at hy
    unfold stS at hy
    by_cases e : i = r
    · rw [if_pos e] at hy
      cases hy
      exact hx
    · rw [if_neg e] at hy
      exact h i hi y hy
  · rw [if_neg c] at hy
    exact h i hi y hy
/-- a trouble that ends the run -/
theorem tr_end (hk : 1 ≤ k ∧ k < 100) (C : CY t0 tf p code Fs fu S0 u w F sh T out) (R : RBk s0 sf h code Fs fu T out (Int32.ofNat k) pl) (hr : r = if k = 9 then sf.1 65 else 0) (ho : out.length ≤ 200000000) : FIN t0 (jI (tol tf (Int32.ofNat k) pl r) 49 18 (Int32.ofNat 0)) s0 sf S0 := by
  have g : gf e89 aNo tf (jI (tol tf (Int32.ofNat k) pl r) 49 18 (Int32.ofNat 0)) := (((g89 (Or.inl ⟨rfl, by decide⟩)).tr2 (g89 (Or.inl ⟨rfl, by decide⟩))).tr2 (g89 (Or.inl ⟨rfl, by decide⟩))).tr2 (g89 (Or.inr rfl))
  have hm := C.mOK
  obtain ⟨⟨a1, ⟨b1, b2, b3, b4, b5⟩, a3, a4, a5, a6⟩, c2, c3⟩ := C
  obtain ⟨r1, ⟨q1, q2, q3, q4, q5⟩, ⟨r3, r4⟩, r5, r6⟩ := R
  refine ⟨a6.tr2 (g.mono2 (fun k f q => by show k = 42 ∨ k = 45 ∨ (k = 48 ∧ ¬ f = 0) ∨ k = 49 ∨ k = 58; omega) (fun k q => q.elim)), r6, hm, ⟨out, a4.keep2 g (by decide) (fun q => q) (fun q => q), r5, ho⟩, ⟨r3.symm, r4.symm, ?_, b2.trans q2.symm, b3.trans q3.symm, b4.trans q4.symm, b5.trans q5.symm⟩, Or.inl ⟨⟨k, by omega, by omega, r3⟩, u, w, g.hp c3 (by decide) (by decide) (fun q => q) (fun q => q) (fun q => q)⟩⟩
  show r = _
  rw [hr, r3]
  by_cases c : k = 9
  · rw [if_pos c, if_pos (by rw [c]; rfl)]
  · rw [if_neg c, if_neg]
    intro q
    have : (Int32.ofNat k = Int32.ofNat 9) = (k = 9) := ev_eq (by omega) (by omega)
    exact c (this.mp q)
/-- a trouble comes on both sides -/
theorem trob (hN : 500 ≤ N) (hk : 1 ≤ k ∧ k < 12) (hk0 : 1 ≤ k0 ∧ k0 ≤ 5) (hj0 : j0 + 1 ≤ k0) (C : CY t0 tf p code Fs fu S0 u w F sh T out) (hub : u ≤ 100000 + 20 * T.2.1 + 2100) (R : RBk s0 sf h code Fs fu T out (Int32.ofNat k) pl) (M : RM0 sf f h code F sh) (hf : 154242 ≤ f ∧ f ≤ 154250 + T.2.1 + 300) (h73 : F ≠ []) (hr : r = if k = 9 then sf.1 65 else 0) (K : CKt code Fs fu F sh T out (n + k0)) (hc : ∀ t2, cf_156 N X (Int32.ofNat k) pl r tf = some (t2, .inl none) → ∀ Q, cf_141_L4 N X (Q + k0) 0 (Int32.ofNat n) t = cf_141_L4 N X Q 0 (Int32.ofNat (n + k0)) t2) (hs : ∀ Q x2, mf_68_L10 N (Q + (j0 + 1)) 0 x2 s = mo_bi (mf_312 N sf) (fun s3 y => mf_68_L10 N Q 0 x2 s3)) (hn : n ≤ 900000) : GO N X t0 s0 p h code Fs fu S0 t s n := by
  obtain ⟨⟨P1, okT⟩, K2, K3, K4, K5, K6, K7, K8, K9, K10, K11⟩ := K
  have okT' := okT
  obtain ⟨f1, f2, f3, f4, f5⟩ := okT'
  have ho : out.length ≤ 200000000 := by omega
  have hub2 : u ≤ 100000 + 20 * (T.2.1 + 300) := tro_a hub
  have hf2 : f ≤ 154250 + (T.2.1 + 300) := tro_b hf.2
  have h66 : sf.1 66 = Int32.ofNat k := R.2.2.1.1
  have hd : sf.1 73 = Int32.ofNat F.length := M.2.2.2.2.2.1
  have hdl : 0 < F.length := List.length_pos_iff.mpr h73
  -- where it ends
  have E : (mf_312 N sf = some (sf, some (.int (Int32.ofNat 0)))) → (10 ≤ k ∨ kI tf 49 15 = Int32.ofNat 0) → GO N X t0 s0 p h code Fs fu S0 t s n := fun e1 e2 => by
    have ef := c_fallE (N := N) (X := X) (t := tf) (k := k) (q := pl) (r := r) e2 (by omega)
    refine Or.inr ⟨k0 + 1, j0 + 1 + 1, _, sf, by omega, by omega, fun Q => ?_, fun Q x2 => ?_, tr_end (by omega) C R hr ho⟩
    · rw [show Q + (k0 + 1) = Q + 1 + k0 by omega, hc _ ef (Q + 1)]
      exact c_off rfl (by omega)
    · rw [show Q + (j0 + 1 + 1) = Q + 1 + (j0 + 1) by omega, hs (Q + 1) x2, e1]
      show mf_68_258 N (mf_68_L10 N Q) x2 sf = _
      have n1 : ¬ F.length ≤ 0 := by omega
      have n2 : ¬ k = 0 := by omega
      generalize F.length = nf at *
      unfold mf_68_258 mf_68_265
      simp (disch := omega) only [ev_S, ev_P, ↓reduceIte, Nat.reduceEqDiff, Nat.reduceLeDiff, Nat.reduceAdd, Nat.reduceMul, Nat.reduceSub, reduceCtorEq, l32_0, l32_1, l32_2, l32_3, l32_4, l32_5, l32_6, l32_7, l32_8, l32_9, l32_10, l32_11, l32_12, l32_13, l32_14, l32_15, l32_16, l32_17, l32_18, l32_19, l32_20, l32_21, l32_22, l32_23, l32_24, l32_25, l32_26, l32_27, l32_28, l32_29, l32_33, l32_40, l32_41, l32_44, l32_45, l32_59, l32_61, l32_91, l32_93, l32_123, l32_125, hd, n1, h66, n2]
  by_cases c10 : 10 ≤ k
  · refine E ?_ (Or.inl c10)
    have n9 : ¬ k ≤ 9 := by omega
    unfold mf_312 mf_312_0 mf_312_9
    simp (disch := omega) only [ev_S, ev_P, ↓reduceIte, Nat.reduceEqDiff, Nat.reduceLeDiff, Nat.reduceAdd, Nat.reduceMul, Nat.reduceSub, reduceCtorEq, l32_0, l32_1, l32_2, l32_3, l32_4, l32_5, l32_6, l32_7, l32_8, l32_9, l32_10, l32_11, l32_12, l32_13, l32_14, l32_15, l32_16, l32_17, l32_18, l32_19, l32_20, l32_21, l32_22, l32_23, l32_24, l32_25, l32_26, l32_27, l32_28, l32_29, l32_33, l32_40, l32_41, l32_44, l32_45, l32_59, l32_61, l32_91, l32_93, l32_123, l32_125, h66, n9]
  cases hu : unF F with
  | none =>
    refine E (r_none hN M hu K10 (by omega) h66) (Or.inr ?_)
    have := C.2.1.2.2.2.2.2.2.2
    rw [(unF_none hu).1] at this
    exact this
  | some q =>
    obtain ⟨m, F'⟩ := q
    obtain ⟨a, I, G, u1, ⟨P, J, x, u2, u3, u4, u5⟩, -, -, ⟨l, u7⟩, ⟨l', u8⟩⟩ := unF_some hu
    have ha : a ∈ F := by rw [u2]; exact List.mem_append_right _ List.mem_cons_self
    obtain ⟨hlt, g, g1, g2, g3, g4, g5⟩ := K3 a ha
    rw [u3] at g5
    obtain ⟨ox, oI⟩ := try_ok g5 u4
    have o3 := ox.2.2.2.1 u4
    rw [u5] at o3
    obtain ⟨w1, w2, w3, w4, w5, w6, w7, w8⟩ := o3
    have hFO := P1.1 g g1
    have hzl : g.2.2.2.2.2 ≤ code.length := hFO.2.1
    have hvs : a.2.2.1.length ≤ 14 := by rw [g4]; exact hFO.2.2.2.2.2.2.1.2.1
    have hjl : (inA code m).2.1 < code.length := by omega
    have hrr : (inA code (inA code m).2.1).2.2.1 < 8 + a.2.2.1.length := by
      rw [g4]
      have := hFO.2.2.2.1 _ w3 w4
      exact this.1 (Or.inr (Or.inr (Or.inr (Or.inr (Or.inr w5)))))
    have hGl : G.length ≤ 9 := by
      have := K2
      rw [u2, List.length_append, List.length_cons] at this
      omega
    have hpl := hlt.pli u3 u4
    obtain ⟨t1, e1, e2, e3⟩ := c_taken (N := N) (X := X) (k := k) (q := pl) (r := r) C P1.2.2.2.2.1 (by omega) hu u1 hjl w5 hrr hvs hGl K9 K11 okT
    obtain ⟨e4, e5⟩ := r_taken (N := N) (ra := r) hN R M (by omega) (fun z => by rw [hr, if_pos z]) hu u1 K10 (by rw [← w6]; exact hrr) hvs hGl okT
    have hcr : cr F' ≤ cr F ∧ n5 F' ≤ n5 F := by
      have := cr_suf (P := P) (G := a :: G)
      rw [u2, u1]
      have c1 : crL a.2.2.2 = crL J + (crI x + crL I) := by rw [u3, crL_app]; rfl
      have c2 : n5I a.2.2.2 = n5I J + ((if x.1 = 5 then 1 else 0) + n5I I) := by rw [u3, n5I_app]; rfl
      have d1 : cr (a :: G) = 4 + crL a.2.2.2 + cr G := rfl
      have d2 : n5 (a :: G) = n5I a.2.2.2 + n5 G := rfl
      show 4 + crL I + cr G ≤ _ ∧ n5I I + n5 G ≤ _
      omega
    by_cases hle : T.2.1 + 300 ≤ 3000
    · obtain ⟨t2, b1, b2, b3⟩ := e2 hle
      obtain ⟨s2, y, b4, b5, b6, b7, b8⟩ := e4 hle
      rw [w6] at b2
      refine Or.inl ⟨k0 + 2, j0 + 1, t2, s2, _, _, _, out, by omega, by omega, by omega, fun Q => ?_, fun Q x2 => ?_, ⟨u, w, b2, ?_, ?_⟩, ⟨f, ⟨b5, b6, ?_⟩, hf.1, ?_, ?_⟩, ⟨P1, ?_⟩, ?_, ?_, ?_, ?_, ?_, ?_⟩
      · rw [show Q + (k0 + 2) = Q + 2 + k0 by omega, hc _ e1 (Q + 2), b1 Q (n + k0) (by omega), Nat.add_assoc]
      · rw [hs Q x2, b4, ev_bi]
      · exact hub2
      · intro a' G' e
        cases e
        exact b3
      · rw [b7, u1]
        rfl
      · exact hf2
      · intro a' G' e
        cases e
        rw [b8]
        show _ = Int32.ofNat (ob0 h + posR code ((inA code m).2.1 + 1) + 0)
        rw [posR_s hjl, show rlen (inA code (inA code m).2.1) = 0 by unfold rlen; rw [w5]; rfl]
        rfl
      · exact ⟨f1, f2, hle, f4, by show 300 * (T.2.2.2 + 1) ≤ T.2.1 + 300; omega⟩
      · show G.length + 1 ≤ 10
        omega
      · refine ⟨_, G, rfl, ⟨kd I, ?_, Or.inl ⟨rfl, rfl, hpl⟩⟩, ⟨g, g1, ?_, ?_, ?_, oI⟩, ?_⟩
        · show lyo (code.take ((inA code m).2.1 + 1)) = _
          rw [lyo_s hjl w8]
          generalize inA code (inA code m).2.1 = c at *
          obtain ⟨o, jj, rr, aa, pp, xx, yy⟩ := c
          have w5 : o = 25 := w5
          subst w5
          rfl
        · show g.2.2.2.2.1 ≤ (inA code m).2.1 + 1
          omega
        · show (inA code m).2.1 + 1 < g.2.2.2.2.2
          have h20 := hFO.2.2.2.2.2.1
          by_cases e : (inA code m).2.1 = g.2.2.2.2.2 - 1
          · rw [e] at w5
            have w5 : (code.getD (g.2.2.2.2.2 - 1) dI).1 = 25 := w5
            omega
          · omega
        · show (stV _ _ _).length = _
          rw [stV_len, g4]
        · cases P with
          | nil => exact K4 a G u2
          | cons b P =>
            have := K4 b (P ++ a :: G) (by rw [u2]; rfl)
            exact fun c hc => this c (List.mem_append_right _ (List.mem_cons_of_mem _ hc))
      · refine gdS_stV (m := a.1) (d := a.2.1) ?_ ⟨trivial, Nat.zero_le _⟩
        rw [u7, u1] at K5
        exact fun y hy => K5 y (List.mem_append_right _ hy)
      · exact sh_stS K6 ⟨trivial, Nat.zero_le _⟩
      · rw [u1] at hcr
        show n + (k0 + 2) + (4 + crL I + cr G) ≤ 20 * T.1 + 60 * (T.2.1 + 300) + _ + 4
        have d1 : cr ((a.1, a.2.1, a.2.2.1, I) :: G) = 4 + crL I + cr G := rfl
        omega
      · rw [u1] at hcr
        show out.length + 9100 * (n5I I + n5 G) ≤ 9100 * T.1
        have d1 : n5 ((a.1, a.2.1, a.2.2.1, I) :: G) = n5I I + n5 G := rfl
        omega
    · obtain ⟨t2, tB, b1, b2, b3⟩ := e3 hle
      obtain ⟨s2, y, b4, b5⟩ := e5 hle
      rw [w7] at b3
      refine Or.inr ⟨k0 + 2, j0 + 1 + 1, t2, s2, by omega, by omega, fun Q => ?_, fun Q x2 => ?_, ?_⟩
      · rw [show Q + (k0 + 2) = Q + 2 + k0 by omega, hc _ e1 (Q + 2), b1 Q (n + k0) (by omega)]
      · rw [show Q + (j0 + 1 + 1) = Q + 1 + (j0 + 1) by omega, hs (Q + 1) x2, b4]
        show mf_68_258 N (mf_68_L10 N Q) x2 s2 = _
        have h66' : s2.1 66 = Int32.ofNat 11 := b5.2.2.1.1
        unfold mf_68_258 mf_68_265
        by_cases c : s2.1 73 ≤ 0
        · rw [if_pos c]
        · rw [if_neg c, h66']
          rfl
      · rw [b3]
        exact tr_end (k := 11) (by omega) b2.cy b5 rfl ho
end TRO
