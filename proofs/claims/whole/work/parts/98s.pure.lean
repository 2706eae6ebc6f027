/-! ===== PURE: run (96): instructions: a number, a variable, a step ===== -/
section IN1
variable {N : Nat} {X : Nat → Option zz_C} {t0 t t1 t2 : cS} {s0 s s' s1 s2 : mS} {u w f f' p h fu m m' d d' n k b z : Nat} {code : List Ins} {Fs : List Fn} {T T' : Ty} {out out' : List Int32} {F G : List Fm} {sh sh' S0 : Nat → Option Nod} {vs vs' : List (Option Nod)} {I I' J : List It} {q r pl kk v : Int32} {it : It} {x : Nod} {l : List Nod} {c : Ins} {L L' : List Nat} {g : Fn}
theorem crL_c : crL (it :: I) = crI it + crL I := rfl
theorem n5I_c : n5I (it :: I) = (if it.1 = 5 then 1 else 0) + n5I I := rfl
theorem okV : okI1 code b z (0, [x], k) I := ⟨Nat.zero_le _, fun _ => ⟨x, rfl⟩, fun q => (by cases q), fun q => (by cases q), fun q => (by cases q), fun q => (by cases q)⟩
theorem okZ : okI1 code b z (1, [], 0) I := ⟨by decide, fun q => (by rcases q with q | q <;> cases q), fun q => (by cases q), fun q => (by cases q), fun q => (by cases q), fun q => (by cases q)⟩
theorem ok5 : okI1 code b z (5, [], 0) I := ⟨by decide, fun q => (by rcases q with q | q <;> cases q), fun q => (by cases q), fun q => (by cases q), fun q => (by cases q), fun q => (by cases q)⟩
theorem ok4 : okI1 code b z (4, [], 0) I := ⟨by decide, fun q => (by rcases q with q | q <;> cases q), fun q => (by cases q), fun q => (by cases q), fun q => (by cases q), fun q => (by cases q)⟩
theorem gd_c {o : Option Nod} {l : List (Option Nod)} (hx : ∀ y, o = some y → wfN y ∧ y.1 ≤ 4) (h : gdS l) : gdS (o :: l) := fun y hy => by
  rcases List.mem_cons.mp hy with q | q
  · exact hx y q.symm
  · exact h y q
theorem gd_Z {a : Int32} : ∀ y, some (nZ a) = some y → wfN y ∧ y.1 ≤ 4 := fun y q => by
  cases q
  exact ⟨trivial, Nat.zero_le _⟩
/-- the next place, with other items -/
theorem PL.nx (P : PL code Fs m vs I g) (h20 : ¬ (inA code m).1 = 20) (ho : okIs code g.2.2.2.2.1 g.2.2.2.2.2 I') (hv : vs'.length = vs.length) : inF code Fs (m + 1, d, vs', I') := by
  obtain ⟨g1, ⟨g2, g3, g4⟩, ⟨g5, g6⟩, g7, g8, g9, g10⟩ := P
  refine ⟨g, g1, ?_, g9 h20, hv.trans g5, ho⟩
  show _ ≤ m + 1
  omega
/-- a value more -/
theorem more1 (hcx : cx code < 6500) (K : CK code Fs fu ((m, 0, vs, I) :: G) sh T out n) (ef : eff (inA code m) (kd I) = some (it.1 :: kd I)) (hit : it.1 = 0 ∨ it.1 = 1) (hok : ∀ b z, okI1 code b z it I) {o : Option Nod} (hi : iC it = [o]) (ho : ∀ y, o = some y → wfN y ∧ y.1 ≤ 4) (h20 : ¬ (inA code m).1 = 20) : CK code Fs fu ((m + 1, 0, vs, it :: I) :: G) sh T out (n + 1) := by
  obtain ⟨g, P⟩ := K.pl0
  obtain ⟨hl, hp⟩ := K.ly0
  obtain ⟨L', e1, e2⟩ := K.nxt
  rw [ef] at e1
  refine K.nx K.1.2 ⟨it.1 :: kd I, by rw [Option.some.inj e1]; exact e2, Or.inl ⟨rfl, rfl, fun y hy => ?_⟩⟩ (P.nx h20 ⟨hok _ _, P.2.2.2.1⟩ rfl) ?_ K.2.2.2.2.1 ?_ ?_
  · rcases List.mem_cons.mp hy with q | q
    · rw [q]; omega
    · exact hp y q
  · rw [cStk_cons (m' := m) (d' := 0), hi]
    exact gd_c ho K.2.2.2.1
  · have e3 : crI it = 0 := by
      unfold crI
      rw [if_neg (by omega), if_neg (by omega), if_neg (by omega)]
    have e4 : pvI (it :: I) = 1 + pvI I := by
      show (if _ then _ else _) = _
      rw [if_pos (by omega)]
    rw [crL_c, e3, e4]
    omega
  · rw [n5I_c, if_neg (by omega)]
    omega
theorem i_0 (hN : 170000 ≤ N) (C : CS t0 t p code Fs fu S0 ((m, 0, vs, I) :: G) sh T out) (R : RSm s0 s h code Fs fu ((m, 0, vs, I) :: G) sh T out) (K : CK code Fs fu ((m, 0, vs, I) :: G) sh T out n) (ho : (inA code m).1 = 0) : GO N X t0 s0 p h code Fs fu S0 t s n := by
  obtain ⟨u, w, f, g, C1, C2, C4, R1, R2, R4, P, hm, hcx, hrl, hG, ⟨b1, b2, b6⟩, hT, hol⟩ := open0 C R K
  obtain ⟨ec, er⟩ := cI_0 (code := code) (own := posC code m) (e := h) ho
  obtain ⟨D1, D2⟩ := C1.fet (N := N) (X := X) (n := n) (l1 := []) rfl C4 hm ec hcx (by omega)
  obtain ⟨s1, kx, y1, y2, y3, y4, y5, y6, ⟨y7, y8, y9, y10⟩, y11, y12⟩ := R1.fet (N := N) (l1 := []) hG rfl R4 hm er hrl
  generalize hva : (inA code m).2.2.2.1 = va at *
  obtain ⟨t2, a1, a2, a3, a4⟩ := D1.push (N := N) (X := X) (m' := m + 1) (d' := 0) (it := (0, [nZ va], 0)) (o := some (nZ va)) (v := tg 0 va) (by omega) cN_Z (by show ¬ (0 : Nat) = 3; decide) rfl
  obtain ⟨s2, c1, c2, c3, c4, c5⟩ := y4.push (N := N) (m' := m + 1) (d' := 0) (it := (0, [nZ va], 0)) (by omega) (rvl_Z (z := va)) (by show ¬ ((0 : Nat) = 2 ∨ (0 : Nat) = 3 ∨ (0 : Nat) = 6 ∨ (0 : Nat) = 8); decide) rfl
  have ef : eff (inA code m) (kd I) = some (0 :: kd I) := by
    generalize inA code m = c at *
    obtain ⟨o, jj, rr, aa, pp, xx, yy⟩ := c
    have ho : o = 0 := ho
    subst ho
    rfl
  refine goOn (k := 1) (j := 1) (by omega) (fun Q => ?_) (fun Q x2 => y11 s2 ?_ c2.1.2.2.1.1 Q x2) a2 C2 ?_ c2 R2 ?_ (more1 (it := (0, [nZ va], 0)) hcx K ef (Or.inl rfl) (fun b z => okV) rfl gd_Z (by omega))
  · rw [D2 Q]
    clear D1 D2
    generalize jI t 49 17 (Int32.ofNat (posC code m + 0 + 1)) = t1 at *
    refine c_rdM (by decide) (by decide) (c_mv0.trans ?_)
    have eth := c_thing (N := N) (X := X) (t := t1) (k := Int32.ofNat 0) (a := va)
    have a1 : cf_165 N X (tg (Int32.ofNat 0) va) t1 = _ := a1
    unfold cf_142_131 cf_142_137 cf_142_140 cf_142_296
    simp (disch := omega) only [ev_S, ev_C, ↓reduceIte, Nat.reduceEqDiff, Nat.reduceLeDiff, Nat.reduceAdd, Nat.reduceMul, Nat.reduceSub, reduceCtorEq, l32_0, l32_1, l32_2, l32_3, l32_4, l32_5, l32_6, l32_7, l32_8, l32_9, l32_10, l32_11, l32_12, l32_13, l32_14, l32_15, l32_16, l32_17, l32_18, l32_19, l32_20, l32_21, l32_22, l32_23, l32_24, l32_25, l32_26, l32_27, l32_28, l32_29, l32_33, l32_40, l32_41, l32_44, l32_45, l32_59, l32_61, l32_91, l32_93, l32_123, l32_125, eth, a1]
  · rw [r_op2 y3 y7]
    unfold mf_313_121 mf_313_132
    have c1 : mf_291 N (Int32.ofNat 0) va s1 = _ := c1
    simp (disch := omega) only [ev_S, ev_P, ↓reduceIte, Nat.reduceEqDiff, Nat.reduceLeDiff, Nat.reduceAdd, Nat.reduceMul, Nat.reduceSub, reduceCtorEq, l32_0, l32_1, l32_2, l32_3, l32_4, l32_5, l32_6, l32_7, l32_8, l32_9, l32_10, l32_11, l32_12, l32_13, l32_14, l32_15, l32_16, l32_17, l32_18, l32_19, l32_20, l32_21, l32_22, l32_23, l32_24, l32_25, l32_26, l32_27, l32_28, l32_29, l32_33, l32_40, l32_41, l32_44, l32_45, l32_59, l32_61, l32_91, l32_93, l32_123, l32_125, y8, c1, l32_8000]
  · rw [a3]
    show Int32.ofNat (posC code m + 0 + 1) = Int32.ofNat (posC code (m + 1) + 0)
    rw [posC_s hm, show clen (inA code m) = 1 by unfold clen; rw [ho]; rfl]
  · rw [c3, y5, y1]
    show Int32.ofNat (ob0 h + posR code m + 0 + 1) = Int32.ofNat (ob0 h + posR code (m + 1) + 0)
    rw [posR_s hm, show rlen (inA code m) = 1 by unfold rlen; rw [ho]; rfl]
    rfl
end IN1
