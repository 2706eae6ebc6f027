/-! ===== PURE: run (122): instructions: each and fold begin ===== -/
section WLK
variable {N : Nat} {X : Nat → Option zz_C} {t0 t t1 t2 : cS} {s0 s s1 s2 : mS} {u w f p h fu m m' d d' n k b j e : Nat} {code : List Ins} {Fs : List Fn} {T : Ty} {out : List Int32} {G F : List Fm} {sh S0 : Nat → Option Nod} {vs : List (Option Nod)} {I J Ir : List It} {q z z' pl : Int32} {x y : Nod} {g : Fn}
/-- over what it goes -/
theorem wlkI (K : CK code Fs fu ((m, 0, vs, I) :: G) sh T out n) (P : PL code Fs m vs I g) (ho : (inA code m).1 = 10) : ∃ y j Ir e, I = (0, [y], j) :: Ir ∧ (e = 6 ∨ e = 8) ∧ (inA code m).2.2.1 = (if e = 6 then 1 else 2) ∧ wlk (inA code m) (kd I) 0 ((e, [y], 0) :: Ir) ∧ okIs code g.2.2.2.2.1 g.2.2.2.2.2 Ir ∧ (wfN y ∧ y.1 ≤ 4) := by
  obtain ⟨hl, hp⟩ := K.ly0
  obtain ⟨L2, z3, z4⟩ := K.nxt
  have hr := P.2.2.2.2.1.2.2.2.1 ho
  obtain ⟨M, hM⟩ : ∃ M, pop0 (inA code m).2.2.1 (kd I) = some M := by
    generalize inA code m = c at *
    obtain ⟨o', jj, r0, aa, pp, xx, yy⟩ := c
    have z : o' = 10 := ho
    subst z
    have z3 : (if r0 ≤ 2 then (pop0 r0 (kd I)).map (0 :: ·) else none) = some L2 := z3
    show ∃ M, pop0 r0 (kd I) = some M
    split at z3
    · cases hM : pop0 r0 (kd I) with
      | none => rw [hM] at z3; cases z3
      | some M => exact ⟨M, rfl⟩
    · cases z3
  have p1 : ∀ {k : Nat} {L M : List Nat}, pop0 (k + 1) L = some M → ∃ L', L = 0 :: L' ∧ pop0 k L' = some M := fun {k L M} q => by
    cases L with
    | nil => cases q
    | cons a L =>
      cases a with
      | zero => exact ⟨L, rfl, q⟩
      | succ a => cases q
  have hgx : ∀ {y : Nod} {j : Nat} {Ir : List It}, I = (0, [y], j) :: Ir → wfN y ∧ y.1 ≤ 4 := fun {y j Ir} e => by
    refine K.2.2.2.1 y ?_
    rw [e, cStk_0 (m' := m) (d' := 0)]
    exact List.mem_cons_self
  rcases hr with hr | hr
  · rw [hr] at hM
    obtain ⟨L', e1, e2⟩ := p1 hM
    cases e2
    obtain ⟨y, j, Ir, q1, q2, q3⟩ := kdV0 e1 P.2.2.2.1
    have hpl : plI Ir := fun a ha => hp a (by rw [q1]; exact List.mem_cons_of_mem _ ha)
    exact ⟨y, j, Ir, 6, q1, Or.inl rfl, hr, ⟨ho, Or.inl ⟨hr, _, Ir, rfl, rfl, ⟨by rw [q2]; exact hM, rfl⟩, hpl⟩⟩, q3, hgx q1⟩
  · rw [hr] at hM
    obtain ⟨L', e1, e2⟩ := p1 hM
    obtain ⟨L'', e3, e4⟩ := p1 e2
    cases e4
    obtain ⟨y, j, Ir, q1, q2, q3⟩ := kdV0 e1 P.2.2.2.1
    rw [e3] at q2
    obtain ⟨c, j2, Iq, r1, r2, r3⟩ := kdV0 q2 q3
    have hpl : plI Iq := fun a ha => hp a (by rw [q1, r1]; exact List.mem_cons_of_mem _ (List.mem_cons_of_mem _ ha))
    exact ⟨y, j, Ir, 8, q1, Or.inr rfl, hr, ⟨ho, Or.inr ⟨hr, _, (0, [c], j2), Iq, by rw [r1], rfl, rfl, ⟨by rw [r2]; exact hM, rfl⟩, hpl⟩⟩, q3, hgx q1⟩
theorem i_10 (hN : 170000 ≤ N) (C : CS t0 t p code Fs fu S0 ((m, 0, vs, I) :: G) sh T out) (R : RSm s0 s h code Fs fu ((m, 0, vs, I) :: G) sh T out) (K : CK code Fs fu ((m, 0, vs, I) :: G) sh T out n) (ho : (inA code m).1 = 10) : GO N X t0 s0 p h code Fs fu S0 t s n := by
  obtain ⟨u, w, f, g, C1, C2, C4, R1, R2, R4, P, hm, hcx, hrl, hG, ⟨b1, b2, b6⟩, hT, hol⟩ := open0 C R K
  obtain ⟨ec, er⟩ := cI_10 (code := code) (own := posC code m) (e := h) ho
  obtain ⟨y, j, Ir, e, q1, he, hr, hwk, hok, hy⟩ := wlkI K P ho
  obtain ⟨hl, hp⟩ := K.ly0
  have hbd := K.bd
  have hpb := P.2.1
  subst q1
  rw [hr] at er
  generalize (inA code m).2.2.2.2.1 = pl at *
  obtain ⟨D1, D2⟩ := C1.fet (N := N) (X := X) (n := n) (l1 := []) (dd := 0) rfl C4 hm ec hcx (by omega)
  obtain ⟨s1, kx, y1, y2, y3, y4, y5, y6, ⟨y7, y8, y9, y10⟩, y11, y12⟩ := R1.fet (N := N) (l1 := []) hG rfl R4 hm er hrl
  have hop : mf_313 N (Int32.ofNat kx) s1 = mf_313_185 N (Int32.ofNat kx) s1 := r_op10 y3 y7
  by_cases hs : T.1 < fu
  · have hst := c_step (N := N) (X := X) (t := jI t 49 17 (Int32.ofNat (posC code m + 0 + 1))) (q := pl) D1.1.2.1.1 D1.1.2.1.2.1 hT.1 hs
    have hT1 : okTy fu (T.1 + 1, T.2) := ⟨hT.1, hs, hT.2.2⟩
    have h30 := hT.2.2.1
    have hstep := r_step (N := N) y4 hT.1 hs
    obtain ⟨F1, F2⟩ := (D1.st).forget (N := N) (X := X)
    obtain ⟨va, i1, i2⟩ := F2.top1 (N := N) (X := X) (cStk_0 (m' := m) (d' := 0))
    obtain ⟨vb, i3⟩ := F2.peekA (N := N) (X := X) (by omega)
    have i2 : cN _ u va y := i2
    have kb := c_kn (N := N) (X := X) i2
    have hk3 := kn_le (x := y)
    have Rst := y4.st
    have h66 : (mI s1 60 (Int32.ofNat (T.1 + 1))).1 66 = Int32.ofNat 0 := Rst.1.2.2.1.1
    obtain ⟨g1, g2, g3⟩ := Rst.hd (m' := m) (d' := 0)
    have hrn : (rStk ((m, 0, vs, Ir) :: G)).length < 8700 := by
      rw [rStk_cons (m' := m) (d' := 0), List.length_append] at b1
      have : (iR ((0, [y], j) : It)).length = 1 := rfl
      omega
    generalize hnr : (rStk ((m, 0, vs, Ir) :: G)).length = nr at *
    have sb : Int32.ofNat (nr + 1) - Int32.ofNat 1 = Int32.ofNat nr := by rw [← Int32.ofNat_sub _ _ (by omega)]; rfl
    have y7' : (mI s1 60 (Int32.ofNat (T.1 + 1))).2.2.1 23 kx = Int32.ofNat 10 := y7
    have y8' : (mI s1 60 (Int32.ofNat (T.1 + 1))).2.2.1 24 kx = Int32.ofNat (27 + if e = 6 then 1 else 2) := y8
    have y70' : (mI s1 60 (Int32.ofNat (T.1 + 1))).1 70 = pl := y6
    have hround : ∀ t3, cf_160 N X pl (jI (jI (jI t 49 17 (Int32.ofNat (posC code m + 0 + 1))) 48 2 (Int32.ofNat (T.1 + 1))) 42 3 (Int32.ofNat 0)) = some (t3, .inl none) → ∀ Q, cf_141_L4 N X (Q + 1) 0 (Int32.ofNat n) t = cf_141_L4 N X Q 0 (Int32.ofNat (n + 1)) t3 := fun t3 ht Q => by
      rw [D2 Q]
      refine c_rdSW (by decide) (by decide) (by decide) hst ((c_143o F1 i1 i3).trans (c_wk25.trans ?_))
      unfold cf_143_257 cf_143_262 cf_143_296
      rw [ht]
      rfl
    have href : ∀ s3, mf_316_130 N (Int32.ofNat kx) (mI s1 60 (Int32.ofNat (T.1 + 1))) = some (s3, none) → mf_313 N (Int32.ofNat kx) s1 = some (s3, none) := fun s3 hs3 => by
      rw [hop]
      have hw : mf_316 N (Int32.ofNat kx) (mI s1 60 (Int32.ofNat (T.1 + 1))) = some (s3, none) := by
        rw [r_wk10 y3 y7']
        exact hs3
      clear Rst g1 g2 g3 y8' y70' y7' hs3
      generalize mI s1 60 (Int32.ofNat (T.1 + 1)) = sS at *
      unfold mf_313_185 mf_313_189 mf_313_196 mf_313_201
      simp (disch := omega) only [ev_S, ev_P, ↓reduceIte, Nat.reduceEqDiff, Nat.reduceLeDiff, Nat.reduceAdd, Nat.reduceMul, Nat.reduceSub, reduceCtorEq, l32_0, l32_1, l32_2, l32_3, l32_4, l32_5, l32_6, l32_7, l32_8, l32_9, l32_10, l32_11, l32_12, l32_13, l32_14, l32_15, l32_16, l32_17, l32_18, l32_19, l32_20, l32_21, l32_22, l32_23, l32_24, l32_25, l32_26, l32_27, l32_28, l32_29, l32_33, l32_40, l32_41, l32_44, l32_45, l32_59, l32_61, l32_91, l32_93, l32_123, l32_125, hstep, h66, hw]
    by_cases c0 : kn y = 0
    · -- nothing to go over
      obtain ⟨j1, -⟩ := g2.iv c0
      obtain ⟨x1, x2, x3⟩ := Rst.trb (N := N) (k := 3) (q := pl)
      refine trob0 (kq := 3) (k0 := 1) (ra := Int32.ofNat 0) (by omega) (by omega) (by omega) K hT1 ⟨by show T.1 ≤ T.1 + 1; omega, Nat.le_refl _⟩ F2 (Nat.le_trans C2 (Nat.le_add_right _ _)) x2 x3 ⟨R2.1, Nat.le_trans R2.2 (Nat.le_add_right _ _)⟩ rfl (fun t3 ht => hround t3 ?_) (y12 _ 3 (href _ ?_) rfl (by omega)) b6
      · rw [c0] at kb
        clear D1 D2 hst hround F1 F2 i2 i3
        generalize jI (jI (jI t 49 17 (Int32.ofNat (posC code m + 0 + 1))) 48 2 (Int32.ofNat (T.1 + 1))) 42 3 (Int32.ofNat 0) = tq at *
        unfold cf_160 cf_160_0 cf_160_5 cf_160_8 cf_160_11 cf_160_18 cf_160_30
        simp (disch := omega) only [ev_S, ev_C, ↓reduceIte, Nat.reduceEqDiff, Nat.reduceLeDiff, Nat.reduceAdd, Nat.reduceMul, Nat.reduceSub, reduceCtorEq, l32_0, l32_1, l32_2, l32_3, l32_4, l32_5, l32_6, l32_7, l32_8, l32_9, l32_10, l32_11, l32_12, l32_13, l32_14, l32_15, l32_16, l32_17, l32_18, l32_19, l32_20, l32_21, l32_22, l32_23, l32_24, l32_25, l32_26, l32_27, l32_28, l32_29, l32_33, l32_40, l32_41, l32_44, l32_45, l32_59, l32_61, l32_91, l32_93, l32_123, l32_125, i1, kb, ht]
      · clear href x2 x3 Rst g2 g3 hstep
        generalize mI s1 60 (Int32.ofNat (T.1 + 1)) = sS at *
        unfold mf_316_130 mf_316_144 mf_316_153
        simp (disch := omega) only [ev_S, ev_P, ↓reduceIte, Nat.reduceEqDiff, Nat.reduceLeDiff, Nat.reduceAdd, Nat.reduceMul, Nat.reduceSub, reduceCtorEq, l32_0, l32_1, l32_2, l32_3, l32_4, l32_5, l32_6, l32_7, l32_8, l32_9, l32_10, l32_11, l32_12, l32_13, l32_14, l32_15, l32_16, l32_17, l32_18, l32_19, l32_20, l32_21, l32_22, l32_23, l32_24, l32_25, l32_26, l32_27, l32_28, l32_29, l32_33, l32_40, l32_41, l32_44, l32_45, l32_59, l32_61, l32_91, l32_93, l32_123, l32_125, g1, sb, j1, y70', x1]
    · -- it begins
      obtain ⟨j1, a0, j2, j3⟩ := g2.th c0
      obtain ⟨t3, a1, a2, a3, a4⟩ := F2.push (N := N) (X := X) (m' := m) (d' := 0) (it := (0, [nZ 0], 0)) (o := some (nZ 0)) (v := tg (Int32.ofNat 0) (Int32.ofNat 0)) (by omega) cN_Z (by show ¬ (0 : Nat) = 3; decide) rfl
      have CY : CX t0 t3 p code Fs fu S0 u 0 ((m, 1, vs, (e, [y], 0) :: Ir) :: G) sh (T.1 + 1, T.2) out := by
        refine a2.re ?_ ?_
        · rw [cStk_00 (m' := m) (d' := 0)]
          rcases he with he | he
          · rw [he, cStk_6 (m' := m) (d' := 0)]
            rfl
          · rw [he, cStk_8 (m' := m) (d' := 0)]
            rfl
        · rw [tStk_678 (m' := m) (d' := 0) (by show e = 6 ∨ e = 7 ∨ e = 8; omega), tStk_0 (m' := m) (d' := 0), tStk_0 (m' := m) (d' := 0)]
      have hwl : (wStk ((m, 0, vs, Ir) :: G)).length ≤ 110 := by
        have := hbd.2.2.1
        rw [wStk_cons (m' := m) (d' := 0) (by show ¬ ((0 : Nat) = 2 ∨ (0 : Nat) = 3 ∨ (0 : Nat) = 6 ∨ (0 : Nat) = 8); decide)] at this
        exact this
      have h79 := g3.2.1.2.2.2.2.2.2.1
      have hsz : mf_77 N (Int32.ofNat a0) (mI (mI s1 60 (Int32.ofNat (T.1 + 1))) 51 (Int32.ofNat nr)) = some (mI (mI s1 60 (Int32.ofNat (T.1 + 1))) 51 (Int32.ofNat nr), some (.int (Int32.ofNat (szN y)))) := r_size (N := N) (LayN_iff.mp j3).2 (Nat.le_trans (LayN.lt j3).1 (by omega))
      have hw := r_way (N := N) (x1 := Int32.ofNat (if e = 6 then 3 else 4)) (x2 := Int32.ofNat a0) (x3 := Int32.ofNat (szN y)) (x4 := Int32.ofNat nr) h79 (by omega)
      have hway : wayP ((mI (mI s1 60 (Int32.ofNat (T.1 + 1))) 51 (Int32.ofNat nr)).2.2.1 47) f h code (Int32.ofNat (if e = 6 then 3 else 4), Int32.ofNat a0, Int32.ofNat 0, Int32.ofNat (szN y), Int32.ofNat nr, (mI (mI s1 60 (Int32.ofNat (T.1 + 1))) 51 (Int32.ofNat nr)).1 73) ((e, [y], 0), (rStk ((m, 0, vs, Ir) :: G)).length, G.length + 1) := by
        refine ⟨fun q => ?_, fun q => ?_, fun _ => ⟨rfl, by show Int32.ofNat 0 = Int32.ofNat ((0 + 1) / 2); rfl, fun _ => by rw [hnr], fun rs y' hy' => ⟨a0, rfl, ?_, ?_⟩⟩⟩
        · have q : e = 2 := q
          omega
        · have q : e = 3 := q
          omega
        · have hy' : [] ++ [y] = rs ++ [y'] := hy'
          have := List.append_inj' hy' rfl
          have e2 : y = y' := by simpa using this.2
          rw [← e2]
          exact j3
        · have hy' : [] ++ [y] = rs ++ [y'] := hy'
          have := List.append_inj' hy' rfl
          have e2 : y = y' := by simpa using this.2
          rw [← e2]
      have RY := g3.way (m' := m) (d' := 1) (it := (e, [y], 0)) (by show e = 2 ∨ e = 3 ∨ e = 6 ∨ e = 8; omega) (by rcases he with he | he <;> rw [he] <;> rfl) hway
      refine goOn (k := 1) (j := 1) (by omega) (hround t3 ?_) (fun Q x2 => y11 _ (href _ ?_) RY.1.2.2.1.1 Q x2) CY C2 ?_ RY R2 ?_ (K.nx hT1 ⟨_, hl, Or.inr ⟨rfl, hwk⟩⟩ ⟨g, P.1, hpb.1, hpb.2.1, P.2.2.1.1, ?_, hok⟩ ?_ K.2.2.2.2.1 ?_ ?_)
      · have eth := c_thing (N := N) (X := X) (t := jI (jI (jI t 49 17 (Int32.ofNat (posC code m + 0 + 1))) 48 2 (Int32.ofNat (T.1 + 1))) 42 3 (Int32.ofNat 0)) (k := Int32.ofNat 0) (a := Int32.ofNat 0)
        clear D1 D2 hst hround F1 F2 i2 i3 CY a2 a3 a4 g2 j1 hway RY
        generalize jI (jI (jI t 49 17 (Int32.ofNat (posC code m + 0 + 1))) 48 2 (Int32.ofNat (T.1 + 1))) 42 3 (Int32.ofNat 0) = tq at *
        generalize kn y = kn' at *
        unfold cf_160 cf_160_0 cf_160_5 cf_160_8 cf_160_21 cf_160_27 cf_160_30
        simp (disch := omega) only [ev_S, ev_C, ↓reduceIte, Nat.reduceEqDiff, Nat.reduceLeDiff, Nat.reduceAdd, Nat.reduceMul, Nat.reduceSub, reduceCtorEq, l32_0, l32_1, l32_2, l32_3, l32_4, l32_5, l32_6, l32_7, l32_8, l32_9, l32_10, l32_11, l32_12, l32_13, l32_14, l32_15, l32_16, l32_17, l32_18, l32_19, l32_20, l32_21, l32_22, l32_23, l32_24, l32_25, l32_26, l32_27, l32_28, l32_29, l32_33, l32_40, l32_41, l32_44, l32_45, l32_59, l32_61, l32_91, l32_93, l32_123, l32_125, i1, kb, c0, eth, a1]
      · have h51' : (mI (mI s1 60 (Int32.ofNat (T.1 + 1))) 51 (Int32.ofNat nr)).1 51 = Int32.ofNat nr := rfl
        have j2' : (mI (mI s1 60 (Int32.ofNat (T.1 + 1))) 51 (Int32.ofNat nr)).2.2.1 50 nr = Int32.ofNat a0 := j2
        clear hway RY g3 g2 Rst h66 y70' y7' j3 hstep href CY
        generalize hsS2 : mI (mI s1 60 (Int32.ofNat (T.1 + 1))) 51 (Int32.ofNat nr) = sS2 at *
        generalize mI s1 60 (Int32.ofNat (T.1 + 1)) = sS at *
        have hsS2 : mI sS 51 (Int32.ofNat nr) = sS2 := hsS2
        generalize szN y = sz at *
        generalize (wStk ((m, 0, vs, Ir) :: G)).length = nw at *
        rcases he with he | he
        · subst he
          have y8' : sS.2.2.1 24 kx = Int32.ofNat 28 := y8'
          have hw : mf_311 N (Int32.ofNat 3) _ _ _ _ = _ := hw
          unfold mf_316_130 mf_316_154 mf_316_176 mf_316_181 mf_316_203 mf_316_210
          simp (disch := omega) only [ev_S, ev_P, ↓reduceIte, Nat.reduceEqDiff, Nat.reduceLeDiff, Nat.reduceAdd, Nat.reduceMul, Nat.reduceSub, reduceCtorEq, l32_0, l32_1, l32_2, l32_3, l32_4, l32_5, l32_6, l32_7, l32_8, l32_9, l32_10, l32_11, l32_12, l32_13, l32_14, l32_15, l32_16, l32_17, l32_18, l32_19, l32_20, l32_21, l32_22, l32_23, l32_24, l32_25, l32_26, l32_27, l32_28, l32_29, l32_33, l32_40, l32_41, l32_44, l32_45, l32_59, l32_61, l32_91, l32_93, l32_123, l32_125, g1, sb, j1, y8', hsS2, h51', j2', hsz, hw, l32_8000]
        · subst he
          have y8' : sS.2.2.1 24 kx = Int32.ofNat 29 := y8'
          have hw : mf_311 N (Int32.ofNat 4) _ _ _ _ = _ := hw
          unfold mf_316_130 mf_316_154 mf_316_180 mf_316_181 mf_316_203 mf_316_210
          simp (disch := omega) only [ev_S, ev_P, ↓reduceIte, Nat.reduceEqDiff, Nat.reduceLeDiff, Nat.reduceAdd, Nat.reduceMul, Nat.reduceSub, reduceCtorEq, l32_0, l32_1, l32_2, l32_3, l32_4, l32_5, l32_6, l32_7, l32_8, l32_9, l32_10, l32_11, l32_12, l32_13, l32_14, l32_15, l32_16, l32_17, l32_18, l32_19, l32_20, l32_21, l32_22, l32_23, l32_24, l32_25, l32_26, l32_27, l32_28, l32_29, l32_33, l32_40, l32_41, l32_44, l32_45, l32_59, l32_61, l32_91, l32_93, l32_123, l32_125, g1, sb, j1, y8', hsS2, h51', j2', hsz, hw, l32_8000]
      · rw [a3]
        rfl
      · show s1.1 69 = _
        rw [y5, y1]
        rfl
      · refine ⟨by show e ≤ 8; omega, fun q => ?_, fun q => ?_, fun q => ?_, fun q => ⟨[], y, rfl, by show 0 = 0 / 2; rfl, c0, by show (0 + 1) / 2 ≤ szN y; omega⟩, fun q => ⟨y, rfl, c0, by show (0 + 1) / 2 ≤ szN y; omega⟩⟩
        · have q : e = 0 ∨ e = 7 := q
          omega
        · have q : e = 2 := q
          omega
        · have q : e = 3 := q
          omega
      · have hg0 := K.2.2.2.1
        rw [cStk_0 (m' := m) (d' := 0)] at hg0
        rcases he with he | he
        · rw [he, cStk_6 (m' := m) (d' := 0)]
          exact gd_c gd_Z hg0
        · rw [he, cStk_8 (m' := m) (d' := 0)]
          exact gd_c gd_Z hg0
      · rw [crL_c, crL_c]
        have f1 : crI (e, [y], 0) = 3 := by rcases he with he | he <;> rw [he] <;> rfl
        have f2 : pvI ((e, [y], 0) :: Ir) = pvI Ir := by
          rcases he with he | he <;> rw [he]
          · show 0 / 2 + pvI Ir = _
            omega
          · rfl
        rw [f1, f2]
        show 1 + (3 + crL Ir) + 20 * T.1 + 60 * T.2.1 + (1 + pvI Ir) ≤ 0 + crL Ir + 20 * (T.1 + 1) + 60 * T.2.1 + pvI Ir
        omega
      · rw [n5I_c, n5I_c]
        have f1 : (if (((e, [y], 0) : It)).1 = 5 then 1 else 0) = 0 := by
          rw [if_neg]
          show ¬ e = 5
          omega
        rw [f1]
        show out.length + 9100 * (0 + n5I Ir) + 9100 * T.1 ≤ out.length + 9100 * (0 + n5I Ir) + 9100 * (T.1 + 1)
        omega
  · obtain ⟨e1', e2', e3'⟩ := r_nost (N := N) y4 hT.1 hs hT.2.1
    rw [y6] at e1' e2' e3'
    refine nofuel (l1 := 0) (j0 := 0) C1 D2 (by decide) hT hs e2' e3' (y12 _ 10 ?_ rfl (by omega)) hol hG
    rw [hop]
    have h66 : (trb s1 (Int32.ofNat 10) pl).1 66 = Int32.ofNat 10 := rfl
    clear e2' e3'
    generalize trb s1 (Int32.ofNat 10) pl = sT at *
    unfold mf_313_185 mf_313_189 mf_313_201
    simp (disch := omega) only [ev_S, ev_P, ↓reduceIte, Nat.reduceEqDiff, Nat.reduceLeDiff, Nat.reduceAdd, Nat.reduceMul, Nat.reduceSub, reduceCtorEq, l32_0, l32_1, l32_2, l32_3, l32_4, l32_5, l32_6, l32_7, l32_8, l32_9, l32_10, l32_11, l32_12, l32_13, l32_14, l32_15, l32_16, l32_17, l32_18, l32_19, l32_20, l32_21, l32_22, l32_23, l32_24, l32_25, l32_26, l32_27, l32_28, l32_29, l32_33, l32_40, l32_41, l32_44, l32_45, l32_59, l32_61, l32_91, l32_93, l32_123, l32_125, e1', h66]
end WLK
