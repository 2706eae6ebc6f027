/-! ===== PURE: run (106): work on one value or two ===== -/
/-- the troubles that values make -/
def okAn (a : Ans) : Prop := ∀ k, a = .inl k → 1 ≤ k ∧ k < 9
section OKA
variable {x y : Nod} {k b : Nat} {xs : List Nod} {z z' : Int32} {r r' : List Int32} {q : List (List Int32)}
theorem okAn_r : okAn (.inr x) := fun k e => by cases e
theorem okAn_l (h : 1 ≤ k ∧ k < 9) : okAn (.inl k) := fun k' e => by cases e; exact h
theorem okAn_M : okAn (ansM k xs) := by
  unfold ansM
  split
  · exact okAn_r
  · exact okAn_l (by omega)
theorem okAn_T : okAn (ansT k x y) := by
  unfold ansT
  repeat' (first | exact okAn_r | exact okAn_M | exact okAn_l (by omega) | split)
theorem okAn_I : okAn (ansI x y) := by
  unfold ansI
  repeat' (first | exact okAn_r | exact okAn_M | exact okAn_l (by omega) | split)
theorem okAn_L : okAn (ansL xs) := by
  unfold ansL
  repeat' (first | exact okAn_r | exact okAn_M | exact okAn_l (by omega) | split)
theorem okAn_i {c : Prop} [Decidable c] {a a' : Ans} (h : okAn a) (h' : okAn a') : okAn (if c then a else a') := by
  by_cases e : c
  · rw [if_pos e]; exact h
  · rw [if_neg e]; exact h'
theorem okAn_B1 : okAn (ansB1 b x) := by
  unfold ansB1 ansC ansW ansD ansK ansFl ansTr ansGp
  repeat' (first | exact okAn_r | exact okAn_M | exact okAn_l (by omega) | apply okAn_i)
theorem okAn_B2 : okAn (ansB2 b x y) := by
  unfold ansB2 ansG ansJ ansTk ansDr ansX ansP ansF ansPd ansO
  repeat' (first | exact okAn_r | exact okAn_M | exact okAn_l (by omega) | apply okAn_i)
end OKA
section VO2
variable {N : Nat} {X : Nat → Option zz_C} {t0 t t1 t2 : cS} {s0 s s' s1 s2 : mS} {u w f f' p h fu m m' d d' n k b z j jn k0 nb an o : Nat} {code : List Ins} {Fs : List Fn} {T T' T1 : Ty} {out out' : List Int32} {F G : List Fm} {sh sh' S0 : Nat → Option Nod} {vs vs' : List (Option Nod)} {I I' J : List It} {q r pl kk gg a1 b1 c1 : Int32} {v : Int64} {it : It} {x y : Nod} {l : List Nod} {L L' : List Nat} {g : Fn} {a a' : Fm} {ans : Ans} {xs : List Nod}
theorem RXm.rA (R : RXm s0 s h code Fs fu f ((m, d, vs, J ++ I') :: G) sh T out) (hJ : rIt J = xs.reverse) (hT : okTy fu T) (hf : 154242 ≤ f ∧ f ≤ 154250 + T.2.1) (hb : (rStk ((m, d, vs, J ++ I') :: G)).length ≤ 8700) (hx : ∀ x ∈ xs, wfN x ∧ x.1 ≤ 4) : rA s (rStk ((m', d', vs, I') :: G)).length f T.2.1 xs ∧ s.1 51 = Int32.ofNat ((rStk ((m', d', vs, I') :: G)).length + xs.length) := by
  have e := rStk_app (m := m) (d := d) (m' := m') (d' := d') (vs := vs) (J := J) (I := I') (G := G)
  rw [hJ] at e
  have hl : (rStk ((m, d, vs, J ++ I') :: G)).length = (rStk ((m', d', vs, I') :: G)).length + xs.length := by rw [e, List.length_append, List.length_reverse]; omega
  have h51 := R.2.2
  rw [hl] at h51
  have h30 := hT.2.2.1
  refine ⟨⟨⟨h51, fun i hi => ?_⟩, R.2.1.2.2.2.2.2.2.2, R.1.2.2.1.1, R.1.2.1.2.2.1, h30, by omega, by omega, by omega, fun x hx' => (hx x hx').1, fun x hx' => (hx x hx').2⟩, h51⟩
  have hs := R.2.1.1
  rw [e] at hs
  have := hs.get (i := xs.length - 1 - i) (by rw [List.length_append, List.length_reverse]; omega)
  rw [List.getElem_append_left (by rw [List.length_reverse]; omega), List.getElem_reverse] at this
  simp only [List.length_append, List.length_reverse] at this
  rw [show xs.length + (rStk ((m', d', vs, I') :: G)).length - 1 - (xs.length - 1 - i) = (rStk ((m', d', vs, I') :: G)).length + i by omega] at this
  have e2 : xs[xs.length - 1 - (xs.length - 1 - i)]'(by omega) = xs[i] := by
    congr 1
    omega
  rw [e2] at this
  exact this
/-- a look that may go too deep -/
theorem CX.peekA (C : CX t0 t p code Fs fu S0 u w F sh T out) (h2 : (cStk F).length ≤ 20000) : ∃ v, cf_167 N X (Int32.ofNat 2) t = some (t, .inl (some (.long v))) := by
  by_cases c : 2 ≤ (cStk F).length
  · obtain ⟨v, e, -⟩ := C.peek (N := N) (X := X) (k := 2) (by omega) c
    exact ⟨v, e⟩
  · have h8 := C.2.2.2
    generalize (cStk F).length = nc at *
    have c' : nc < 2 := by omega
    have eth := c_thing (N := N) (X := X) (t := t) (k := Int32.ofNat 0) (a := Int32.ofNat 0)
    refine ⟨tg (Int32.ofNat 0) (Int32.ofNat 0), ?_⟩
    unfold cf_167 cf_167_0 cf_167_4 cf_167_26 cf_167_31
    simp (disch := omega) only [ev_S, ev_C, ↓reduceIte, Nat.reduceEqDiff, Nat.reduceLeDiff, Nat.reduceAdd, Nat.reduceMul, Nat.reduceSub, reduceCtorEq, l32_0, l32_1, l32_2, l32_3, l32_4, l32_5, l32_6, l32_7, l32_8, l32_9, l32_10, l32_11, l32_12, l32_13, l32_14, l32_15, l32_16, l32_17, l32_18, l32_19, l32_20, l32_21, l32_22, l32_23, l32_24, l32_25, l32_26, l32_27, l32_28, l32_29, l32_33, l32_40, l32_41, l32_44, l32_45, l32_59, l32_61, l32_91, l32_93, l32_123, l32_125, h8, c', eth]
/-- an instruction that works on values, with a step -/
theorem vopS (hN : 170000 ≤ N) (C : CS t0 t p code Fs fu S0 ((m, 0, vs, I) :: G) sh T out) (R : RSm s0 s h code Fs fu ((m, 0, vs, I) :: G) sh T out) (K : CK code Fs fu ((m, 0, vs, I) :: G) sh T out n)
    (ec : cI code (posC code m) (inA code m) = [(Int32.ofNat an, gg, pl)]) (han : 19 ≤ an ∧ an ≤ 25) (er : rI h code (inA code m) = [(Int32.ofNat o, a1, b1, c1, pl)]) (ho : 4 ≤ o ∧ o ≤ 9)
    (hcl : clen (inA code m) = 1) (hrlen : rlen (inA code m) = 1) (h20 : ¬ (inA code m).1 = 20)
    (eI : I = J ++ I') (hJ : ∀ y ∈ J, y.1 = 0 ∨ y.1 = 1) (hR : rIt J = xs.reverse) (hjn : (cIt J).length = jn) (hef : eff (inA code m) (kd I) = some (0 :: kd I'))
    (hclass : ∀ (tS : cS) (u' : Nat), u' ≤ 162000 → CX t0 tS p code Fs fu S0 u' 0 ((m, 0, vs, I) :: G) sh (T.1 + 1, T.2) out → ∃ t2 v, cF tS t2 u' v ans ∧ ∀ va vb, cf_167 N X (Int32.ofNat 1) tS = some (tS, .inl (some (.long va))) → cf_167 N X (Int32.ofNat 2) tS = some (tS, .inl (some (.long vb))) → ∀ t3, cf_144 N X v (Int32.ofNat jn) pl t2 = some (t3, .inl none) → cf_143_19 N X (Int32.ofNat an) gg pl va vb tS = some (t3, .inl none))
    (href : ∀ (sS : mS) (nb f' : Nat) kx, kx < 8000 → rA sS nb f' T.2.1 xs → LayN (sS.2.2.1 47) (Rf f') 154240 (nR []) → sS.1 51 = Int32.ofNat (nb + xs.length) → sS.2.2.1 23 kx = Int32.ofNat o → sS.2.2.1 24 kx = a1 → sS.2.2.1 25 kx = b1 → ∃ s2, mf_316 N (Int32.ofNat kx) sS = some (s2, none) ∧ rE sS s2 nb f' T.2.1 ans)
    (hok : okAn ans) (hpot : ∀ x, ans = .inr x → pvI (J ++ I') ≤ 60 * ctV (vw x) + 19 + pvI I') (hxs : ∀ x ∈ xs, wfN x ∧ x.1 ≤ 4) : GO N X t0 s0 p h code Fs fu S0 t s n := by
  obtain ⟨u, w, f, g, C1, C2, C4, R1, R2, R4, P, hm, hcx, hrl, hG, ⟨b1', b2, b6⟩, hT, hol⟩ := open0 C R K
  obtain ⟨D1, D2⟩ := C1.fet (N := N) (X := X) (n := n) (l1 := []) rfl C4 hm ec hcx (by omega)
  obtain ⟨s1, kx, y1, y2, y3, y4, y5, y6, ⟨y7, y8, y9, y10⟩, y11, y12⟩ := R1.fet (N := N) (l1 := []) hG rfl R4 hm er hrl
  have hop : mf_313 N (Int32.ofNat kx) s1 = mf_313_185 N (Int32.ofNat kx) s1 := by
    have hv : o = 4 ∨ o = 5 ∨ o = 6 ∨ o = 7 ∨ o = 8 ∨ o = 9 := by omega
    rcases hv with e | e | e | e | e | e <;> subst e
    · exact r_op4 y3 y7
    · exact r_op5 y3 y7
    · exact r_op6 y3 y7
    · exact r_op7 y3 y7
    · exact r_op8 y3 y7
    · exact r_op9 y3 y7
  have hac : ¬ (Int32.ofNat an) < Int32.ofNat 19 := by rw [ev_lt (by omega) (by omega)]; omega
  have hac2 : ¬ (Int32.ofNat an) < Int32.ofNat 13 := by rw [ev_lt (by omega) (by omega)]; omega
  have hac3 : ¬ Int32.ofNat 26 ≤ Int32.ofNat an := by rw [ev_le (by omega) (by omega)]; omega
  by_cases hs : T.1 < fu
  · obtain ⟨hl, hp⟩ := K.ly0
    have hly := lyo_s hm hl
    rw [hef] at hly
    have h30 := hT.2.2.1
    have hst := c_step (N := N) (X := X) (t := jI t 49 17 (Int32.ofNat (posC code m + 0 + 1))) (q := pl) D1.1.2.1.1 D1.1.2.1.2.1 hT.1 hs
    obtain ⟨F1, F2⟩ := (D1.st).forget (N := N) (X := X)
    obtain ⟨t2, v, G1, G2⟩ := hclass _ u (by omega) F2
    have hpos : 1 ≤ (cStk ((m, 0, vs, I) :: G)).length ∨ (cStk ((m, 0, vs, I) :: G)).length = 0 := by omega
    have hp2 := F2.peekA (N := N) (X := X) (by omega)
    have hp1 : ∃ va, cf_167 N X (Int32.ofNat 1) (jI (jI (jI t 49 17 (Int32.ofNat (posC code m + 0 + 1))) 48 2 (Int32.ofNat (T.1 + 1))) 42 3 (Int32.ofNat 0)) = some (jI (jI (jI t 49 17 (Int32.ofNat (posC code m + 0 + 1))) 48 2 (Int32.ofNat (T.1 + 1))) 42 3 (Int32.ofNat 0), .inl (some (.long va))) := by
      rcases hpos with c | c
      · obtain ⟨va, e, -⟩ := F2.peek (N := N) (X := X) (k := 1) (by omega) c
        exact ⟨va, e⟩
      · have h8 := F2.2.2.2
        rw [c] at h8
        have eth := c_thing (N := N) (X := X) (t := jI (jI (jI t 49 17 (Int32.ofNat (posC code m + 0 + 1))) 48 2 (Int32.ofNat (T.1 + 1))) 42 3 (Int32.ofNat 0)) (k := Int32.ofNat 0) (a := Int32.ofNat 0)
        refine ⟨tg (Int32.ofNat 0) (Int32.ofNat 0), ?_⟩
        clear F1 F2 G1 G2 hp2 hst D1 D2
        generalize jI (jI (jI t 49 17 (Int32.ofNat (posC code m + 0 + 1))) 48 2 (Int32.ofNat (T.1 + 1))) 42 3 (Int32.ofNat 0) = tq at *
        unfold cf_167 cf_167_0 cf_167_4 cf_167_26 cf_167_31
        simp (disch := omega) only [ev_S, ev_C, ↓reduceIte, Nat.reduceEqDiff, Nat.reduceLeDiff, Nat.reduceAdd, Nat.reduceMul, Nat.reduceSub, reduceCtorEq, l32_0, l32_1, l32_2, l32_3, l32_4, l32_5, l32_6, l32_7, l32_8, l32_9, l32_10, l32_11, l32_12, l32_13, l32_14, l32_15, l32_16, l32_17, l32_18, l32_19, l32_20, l32_21, l32_22, l32_23, l32_24, l32_25, l32_26, l32_27, l32_28, l32_29, l32_33, l32_40, l32_41, l32_44, l32_45, l32_59, l32_61, l32_91, l32_93, l32_123, l32_125, h8, eth]
    obtain ⟨vb, hp2⟩ := hp2
    obtain ⟨va, hp1⟩ := hp1
    have Rst := y4.st
    have Rst' := Rst
    rw [eI] at Rst'
    have hT1 : okTy fu (T.1 + 1, T.2) := ⟨hT.1, hs, hT.2.2⟩
    obtain ⟨A1, A2⟩ := Rst'.rA (m' := m) (d' := 0) hR hT1 R2 (by rw [← eI]; exact b1') hxs
    obtain ⟨s2, S1, S2⟩ := href _ _ f kx y3 A1 Rst.2.1.2.2.2.2.1 A2 y7 y8 y9
    have hstep := r_step (N := N) y4 hT.1 hs
    have h66 : (mI s1 60 (Int32.ofNat (T.1 + 1))).1 66 = Int32.ofNat 0 := Rst.1.2.2.1.1
    have hrun : mf_313 N (Int32.ofNat kx) s1 = some (s2, none) := by
      rw [hop]
      clear S2 A1 A2 Rst Rst'
      generalize mI s1 60 (Int32.ofNat (T.1 + 1)) = sS at *
      unfold mf_313_185 mf_313_189 mf_313_196 mf_313_201
      simp (disch := omega) only [ev_S, ev_P, ↓reduceIte, Nat.reduceEqDiff, Nat.reduceLeDiff, Nat.reduceAdd, Nat.reduceMul, Nat.reduceSub, reduceCtorEq, l32_0, l32_1, l32_2, l32_3, l32_4, l32_5, l32_6, l32_7, l32_8, l32_9, l32_10, l32_11, l32_12, l32_13, l32_14, l32_15, l32_16, l32_17, l32_18, l32_19, l32_20, l32_21, l32_22, l32_23, l32_24, l32_25, l32_26, l32_27, l32_28, l32_29, l32_33, l32_40, l32_41, l32_44, l32_45, l32_59, l32_61, l32_91, l32_93, l32_123, l32_125, hstep, h66, S1]
    have hJ3 : ∀ y ∈ J, ¬ y.1 = 3 := fun y hy => by have := hJ y hy; omega
    have hwJ : wStk ((m, 0, vs, J ++ I') :: G) = wStk ((m, 0, vs, I') :: G) := by
      show wIt _ _ (J ++ I') ++ _ = _
      have key : ∀ {J : List It} {b d : Nat}, (∀ y ∈ J, y.1 = 0 ∨ y.1 = 1) → wIt b d (J ++ I') = wIt b d I' := by
        intro J
        induction J with
        | nil => intro b d _; rfl
        | cons x J ih =>
          intro b d hq
          have := hq x List.mem_cons_self
          show wIt b d (x :: (J ++ I')) = _
          rw [show wIt b d (x :: (J ++ I')) = wIt b d (J ++ I') from if_neg (by omega)]
          exact ih (fun y hy => hq y (List.mem_cons_of_mem _ hy))
      rw [key hJ]
      rfl
    have Mlow : RM0 (mI s1 60 (Int32.ofNat (T.1 + 1))) f h code ((m, 0, vs, I') :: G) sh := by
      refine RM0.mv Rst'.2.1 (fun _ _ => rfl) rfl rfl (Nat.le_refl _) (fun _ _ => rfl) Rst'.2.1.2.2.2.2.2.2.2 ?_ rfl hwJ.symm
      have := Rst'.2.1.1
      rw [rStk_app (m' := m) (d' := 0)] at this
      exact this.app
    have hpJ : plI I' := fun y hy => hp y (by rw [eI]; exact List.mem_append_right _ hy)
    have hoJ : okIs code g.2.2.2.2.1 g.2.2.2.2.2 I' := by
      have := P.2.2.2.1
      rw [eI] at this
      have key : ∀ {J : List It} {b z : Nat}, okIs code b z (J ++ I') → okIs code b z I' := by
        intro J
        induction J with
        | nil => intro b z q; exact q
        | cons x J ih => intro b z q; exact ih q.2
      exact key this
    subst eI
    refine vop (k0 := 1) (T1 := (T.1 + 1, T.2)) (d' := 0) (jn := jn) (J := J) hN (by omega) K P (by omega) h20 hJ3 hjn ⟨hT1, by show T.1 ≤ T.1 + 1; omega, rfl⟩ hly hpJ hoJ F2 C2 G1 ?_ (fun t3 ht Q => ?_) Rst.1 Mlow R2 y6 ?_ S2 hok (fun e => y11 s2 hrun e) (fun kq e1 e2 => y12 s2 kq hrun e1 e2) ?_ hol
    · show Int32.ofNat (posC code m + 0 + 1) = _
      rw [posC_s hm, hcl]
    · rw [D2 Q]
      refine c_rdSW hac hac2 hac3 hst ?_
      have G3 := G2 va vb hp1 hp2 t3 ht
      unfold cf_143 cf_143_0 cf_143_7 cf_143_12
      clear G2 G1 F2 D1 D2
      generalize jI (jI t 49 17 (Int32.ofNat (posC code m + 0 + 1))) 48 2 (Int32.ofNat (T.1 + 1)) = tq at *
      simp (disch := omega) only [ev_S, ev_C, ↓reduceIte, Nat.reduceEqDiff, Nat.reduceLeDiff, Nat.reduceAdd, Nat.reduceMul, Nat.reduceSub, reduceCtorEq, l32_0, l32_1, l32_2, l32_3, l32_4, l32_5, l32_6, l32_7, l32_8, l32_9, l32_10, l32_11, l32_12, l32_13, l32_14, l32_15, l32_16, l32_17, l32_18, l32_19, l32_20, l32_21, l32_22, l32_23, l32_24, l32_25, l32_26, l32_27, l32_28, l32_29, l32_33, l32_40, l32_41, l32_44, l32_45, l32_59, l32_61, l32_91, l32_93, l32_123, l32_125, F1, hp1, hp2, G3]
    · show s1.1 69 = _
      rw [y5, y1, posR_s hm, hrlen]
      rfl
    · intro x hx
      have := hpot x hx
      show 1 + 20 * T.1 + pvI (J ++ I') ≤ crL J + 20 * (T.1 + 1) + 60 * ctV (vw x) + 1 + pvI I'
      omega
  · obtain ⟨e1, e2, e3⟩ := r_nost (N := N) y4 hT.1 hs hT.2.1
    rw [y6] at e1 e2 e3
    refine nofuel (l1 := 0) (j0 := 0) C1 D2 hac hT hs e2 e3 (y12 _ 10 ?_ rfl (by omega)) hol hG
    rw [hop]
    have h66 : (trb s1 (Int32.ofNat 10) pl).1 66 = Int32.ofNat 10 := rfl
    clear e2 e3
    generalize trb s1 (Int32.ofNat 10) pl = sT at *
    unfold mf_313_185 mf_313_189 mf_313_201
    simp (disch := omega) only [ev_S, ev_P, ↓reduceIte, Nat.reduceEqDiff, Nat.reduceLeDiff, Nat.reduceAdd, Nat.reduceMul, Nat.reduceSub, reduceCtorEq, l32_0, l32_1, l32_2, l32_3, l32_4, l32_5, l32_6, l32_7, l32_8, l32_9, l32_10, l32_11, l32_12, l32_13, l32_14, l32_15, l32_16, l32_17, l32_18, l32_19, l32_20, l32_21, l32_22, l32_23, l32_24, l32_25, l32_26, l32_27, l32_28, l32_29, l32_33, l32_40, l32_41, l32_44, l32_45, l32_59, l32_61, l32_91, l32_93, l32_123, l32_125, e1, h66]
end VO2
