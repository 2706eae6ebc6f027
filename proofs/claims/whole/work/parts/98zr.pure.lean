/-! ===== PURE: run (121): instructions: gives ===== -/
section GIV
variable {N : Nat} {X : Nat → Option zz_C} {t0 t t1 t2 : cS} {s0 s s1 s2 : mS} {u w f p h fu m m' d d' n k b j : Nat} {code : List Ins} {Fs : List Fn} {T : Ty} {out : List Int32} {G F : List Fm} {sh S0 : Nat → Option Nod} {vs : List (Option Nod)} {I J : List It} {q z z' pl : Int32} {x : Nod}
theorem c_143o {ac g q : Int32} {va vb : Int64} (e1 : cf_121 N X t = some (t1, .inl none)) (e2 : cf_167 N X (Int32.ofNat 1) t1 = some (t1, .inl (some (.long va)))) (e3 : cf_167 N X (Int32.ofNat 2) t1 = some (t1, .inl (some (.long vb)))) : cf_143 N X ac g q t = cf_143_19 N X ac g q va vb t1 := by
  unfold cf_143 cf_143_0 cf_143_7 cf_143_12
  simp (disch := omega) only [ev_S, ev_C, ↓reduceIte, Nat.reduceEqDiff, Nat.reduceLeDiff, Nat.reduceAdd, Nat.reduceMul, Nat.reduceSub, reduceCtorEq, l32_0, l32_1, l32_2, l32_3, l32_4, l32_5, l32_6, l32_7, l32_8, l32_9, l32_10, l32_11, l32_12, l32_13, l32_14, l32_15, l32_16, l32_17, l32_18, l32_19, l32_20, l32_21, l32_22, l32_23, l32_24, l32_25, l32_26, l32_27, l32_28, l32_29, l32_33, l32_40, l32_41, l32_44, l32_45, l32_59, l32_61, l32_91, l32_93, l32_123, l32_125, e1, e2, e3]
theorem i_20 (hN : 170000 ≤ N) (C : CS t0 t p code Fs fu S0 ((m, 0, vs, I) :: G) sh T out) (R : RSm s0 s h code Fs fu ((m, 0, vs, I) :: G) sh T out) (K : CK code Fs fu ((m, 0, vs, I) :: G) sh T out n) (ho : (inA code m).1 = 20) : GO N X t0 s0 p h code Fs fu S0 t s n := by
  obtain ⟨u, w, f, g, C1, C2, C4, R1, R2, R4, P, hm, hcx, hrl, hG, ⟨b1, b2, b6⟩, hT, hol⟩ := open0 C R K
  obtain ⟨ec, er⟩ := cI_20 (code := code) (own := posC code m) (e := h) ho
  obtain ⟨x, j, I', q1, q2, hx⟩ := givI K P ho
  subst q1
  generalize (inA code m).2.2.2.2.1 = pl at *
  obtain ⟨D1, D2⟩ := C1.fet (N := N) (X := X) (n := n) (l1 := []) rfl C4 hm ec hcx (by omega)
  obtain ⟨s1, kx, y1, y2, y3, y4, y5, y6, ⟨y7, y8, y9, y10⟩, y11, y12⟩ := R1.fet (N := N) (l1 := []) hG rfl R4 hm er hrl
  obtain ⟨t4, v, L1, L2, L3, L4⟩ := D1.leave (N := N) (X := X) (by omega) b2 hG
  obtain ⟨g1, g2, g3⟩ := y4.hd (m' := m) (d' := 0)
  have hrn : (rStk ((m, 0, vs, I') :: G)).length < 8700 := by
    rw [rStk_cons (m' := m) (d' := 0), List.length_append] at b1
    have : (iR ((0, [x], j) : It)).length = 1 := rfl
    omega
  have h30 := hT.2.2.1
  generalize hnr : (rStk ((m, 0, vs, I') :: G)).length = nr at *
  have RL := g3.leave
  have hround : ∀ t5, cf_165 N X v t4 = some (t5, .inl none) → kI t5 49 11 = Int32.ofNat G.length → ∀ Q, cf_141_L4 N X (Q + 1) 0 (Int32.ofNat n) t = cf_141_L4 N X Q 0 (Int32.ofNat (n + 1)) (jI t5 49 18 (if G = [] then Int32.ofNat 0 else Int32.ofNat 1)) := fun t5 h1 h2 Q => by
    have e := L4 t5 h1 h2
    rw [D2 Q]
    refine c_rdM (by decide) (by decide) (c_mv8.trans ?_)
    unfold cf_142_228 cf_142_232
    rw [e]
    rfl
  have href : ∀ s5, mf_291 N (s1.2.2.1 49 nr) (s1.2.2.1 50 nr) (lvS (mI s1 51 (Int32.ofNat nr)) h code G) = some (s5, none) → mf_313 N (Int32.ofNat kx) s1 = some (s5, none) := fun s5 e => by
    rw [r_op20 y3 y7]
    refine r_339 y3 g1 (by omega) ?_
    have e2 := r_leave (N := N) g3 hG rfl (by omega) e
    have h23 : (mI s1 51 (Int32.ofNat nr)).2.2.1 23 kx = Int32.ofNat 20 := y7
    rw [← e2]
    clear e e2 g3 RL
    generalize mI s1 51 (Int32.ofNat nr) = sS at *
    unfold mf_314 mf_314_0 mf_314_13 mf_314_100 mf_314_204
    simp (disch := omega) only [ev_S, ev_P, ↓reduceIte, Nat.reduceEqDiff, Nat.reduceLeDiff, Nat.reduceAdd, Nat.reduceMul, Nat.reduceSub, reduceCtorEq, l32_0, l32_1, l32_2, l32_3, l32_4, l32_5, l32_6, l32_7, l32_8, l32_9, l32_10, l32_11, l32_12, l32_13, l32_14, l32_15, l32_16, l32_17, l32_18, l32_19, l32_20, l32_21, l32_22, l32_23, l32_24, l32_25, l32_26, l32_27, l32_28, l32_29, l32_33, l32_40, l32_41, l32_44, l32_45, l32_59, l32_61, l32_91, l32_93, l32_123, l32_125, h23, l32_8000]
  have hkt := K.2.2.1
  obtain ⟨a0, G0, e0, -, -, t3⟩ := hkt
  have e0 : G = G0 := by cases e0; rfl
  have hgG : gdS (cStk G) := by
    have := K.2.2.2.1
    have : gdS (cIt ((0, [x], j) :: I') ++ (vs.reverse ++ cStk G)) := this
    exact this.app.app
  cases G with
  | nil =>
    obtain ⟨t5, s5, e1, e2, e3, e4, e5, e6⟩ := fin_ok (N := N) (X := X) L1 (by omega) RL (by omega) L2 hx K.2.2.2.2.1 g2 hol
    have hr1 := hround t5 e1 e3
    rw [if_pos rfl] at hr1
    refine Or.inr ⟨2, 2, _, s5, by omega, by omega, fun Q => ?_, fun Q x2 => ?_, e6⟩
    · rw [show Q + 2 = Q + 1 + 1 from rfl, hr1 (Q + 1)]
      exact c_off rfl (by omega)
    · rw [show Q + 2 = Q + 1 + 1 from rfl, y11 s5 (href s5 e2) e5 (Q + 1) x2]
      show mf_68_258 N (mf_68_L10 N Q) x2 s5 = _
      clear e6
      unfold mf_68_258
      simp (disch := omega) only [ev_S, ev_P, ↓reduceIte, Nat.reduceEqDiff, Nat.reduceLeDiff, Nat.reduceAdd, Nat.reduceMul, Nat.reduceSub, reduceCtorEq, l32_0, l32_1, l32_2, l32_3, l32_4, l32_5, l32_6, l32_7, l32_8, l32_9, l32_10, l32_11, l32_12, l32_13, l32_14, l32_15, l32_16, l32_17, l32_18, l32_19, l32_20, l32_21, l32_22, l32_23, l32_24, l32_25, l32_26, l32_27, l32_28, l32_29, l32_33, l32_40, l32_41, l32_44, l32_45, l32_59, l32_61, l32_91, l32_93, l32_123, l32_125, e4]
  | cons a1 G1 =>
    obtain ⟨m1, d1, vs1, I1⟩ := a1
    subst e0
    obtain ⟨hts, hin⟩ := t3 (m1, d1, vs1, I1) List.mem_cons_self
    have hP := K.1.1
    obtain ⟨g', P'⟩ := plF hP hin
    have hm1 := P'.2.1.2.2
    have hl1 : (cStk ((m1, d1, vs1, I1) :: G1)).length ≤ 17500 := by
      have b2 : (cIt ((0, [x], j) :: I') ++ (vs.reverse ++ cStk ((m1, d1, vs1, I1) :: G1))).length ≤ 17500 := b2
      rw [List.length_append, List.length_append] at b2
      omega
    have hr1 : (rStk ((m1, d1, vs1, I1) :: G1)).length ≤ 8700 := by
      have b1 : (rIt ((0, [x], j) :: I') ++ rStk ((m1, d1, vs1, I1) :: G1)).length ≤ 8700 := b1
      rw [List.length_append] at b1
      omega
    obtain ⟨t5, e1, e2, e3, e4⟩ := L1.push (N := N) (X := X) (m' := m1) (d' := d1) (it := (0, [x], 0)) (o := some x) (v := v) (by omega) L2 (by show ¬ (0 : Nat) = 3; decide) rfl
    obtain ⟨s5, f1, f2, f3, -, -⟩ := RL.push (N := N) (m' := m1) (d' := d1) (it := (0, [x], 0)) (by omega) g2 (by show ¬ ((0 : Nat) = 2 ∨ (0 : Nat) = 3 ∨ (0 : Nat) = 6 ∨ (0 : Nat) = 8); decide) rfl
    have hr2 := hround t5 e1 e2.2.1.2.2.2.2.2.2.1
    rw [if_neg (by intro q; cases q), jI_self e2.1.2.2.2.2.1] at hr2
    have p17 : kI t5 49 17 = Int32.ofNat (posC code m1 + (if (inA code m1).1 = 10 then 2 else 1)) := e3.trans L3
    have p69 : s5.1 69 = Int32.ofNat (ob0 h + posR code m1 + 1) := f3
    have hpI : pvI ((0, [x], j) :: I') = 1 := by
      have : pvI ((0, [x], j) :: I') = 1 + pvI I' := rfl
      rw [this, q2]
    obtain ⟨L, hL, ⟨o9, k1, k2⟩ | ⟨o10, hwk⟩⟩ := hts
    · -- a call
      have o9 : (inA code m1).1 = 9 := o9
      have k1 : pop0 (inA code m1).2.2.1 L = some (kd I1) := k1
      have k2 : plI I1 := k2
      have hL : lyo (code.take m1) = some L := hL
      obtain ⟨L2', n1, n2⟩ := nxF hP hm1 hL
      have n3 : L2' = 0 :: kd I1 := by
        generalize inA code m1 = c at *
        obtain ⟨o', jj, r0, aa, pp, xx, yy⟩ := c
        have z : o' = 9 := o9
        subst z
        have k1 : pop0 r0 L = some (kd I1) := k1
        have n1 : (pop0 r0 L).map (0 :: ·) = some L2' := n1
        rw [k1] at n1
        exact (Option.some.inj n1).symm
      rw [if_neg (by omega)] at p17
      have hnx := P'.2.2.2.2.2.1 (by omega)
      refine goOn (k := 1) (j := 1) (by omega) hr2 (fun Q x2 => y11 s5 (href s5 f1) f2.1.2.2.1.1 Q x2) (e2.at (m' := m1 + 1) (d' := 0)) C2 ?_ (f2.re (a' := (m1 + 1, 0, vs1, (0, [x], 0) :: I1)) rfl rfl rfl) R2 ?_ (K.ret ⟨0 :: kd I1, ?_, Or.inl ⟨rfl, rfl, ?_⟩⟩ ⟨g', P'.1, ?_, ?_, P'.2.2.1.1, okV, P'.2.2.2.1⟩ ?_ ?_ ?_)
      · rw [p17, posC_s hm1, show clen (inA code m1) = 1 by unfold clen; rw [o9]; rfl]
      · rw [p69, posR_s hm1, show rlen (inA code m1) = 1 by unfold rlen; rw [o9]; rfl]
        rfl
      · rw [← n3]; exact n2
      · intro y hy
        rcases List.mem_cons.mp hy with e | e
        · rw [e]; exact Nat.zero_le 5
        · exact k2 y e
      · exact Nat.le_succ_of_le P'.2.1.1
      · exact hnx
      · rw [cStk_0 (m' := m1) (d' := d1)]
        exact gd_c (fun y hy => by cases hy; exact hx) hgG
      · rw [hpI, crL_c]
        show 1 + (0 + crL I1) + 1 + pvI I1 ≤ 4 + _ + crL I1 + (1 + pvI I1)
        omega
      · rw [n5I_c]
        show 0 + n5I I1 ≤ _
        omega
    · have o10 : (inA code m1).1 = 10 := o10
      rw [if_pos o10] at p17
      obtain ⟨ec1, -⟩ := cI_10 (code := code) (own := posC code m1) (e := h) o10
      have hlt5 : (cStk ((m1, d1, vs1, (0, [x], 0) :: I1) :: G1)).length ≤ 17600 := by
        rw [cStk_0 (m' := m1) (d' := d1), List.length_cons]
        omega
      rcases hwk with ⟨hr0, a, Iq, ea, ha, ⟨hk1, hk2⟩, hpl⟩ | ⟨hr0, a, yy, Iq, ea, ha, hy, ⟨hk1, hk2⟩, hpl⟩
      · -- each
        have ea : I1 = a :: Iq := ea
        subst ea
        have hr0 : (inA code m1).2.2.1 = 1 := hr0
        obtain ⟨rs, y, w1, w2, w3, w4⟩ := P'.2.2.2.1.1.2.2.2.2.1 ha
        obtain ⟨a1, al, k0⟩ := a
        have ha : a1 = 6 := ha
        have w1 : al = rs ++ [y] := w1
        subst ha w1
        have hk2 : k0 % 2 = 1 := hk2
        have w2 : rs.length = k0 / 2 := w2
        have w4 : (k0 + 1) / 2 ≤ szN y := w4
        have wy : wfN y := by
          refine (hgG y ?_).1
          rw [cStk_6 (m' := m1) (d' := d1)]
          refine List.mem_cons_of_mem _ (List.mem_append_left _ (List.mem_map.mpr ⟨y, List.mem_append_right _ List.mem_cons_self, rfl⟩))
        have s64 := wf64 wy
        rw [if_pos hr0, if_pos hr0] at ec1
        generalize (inA code m1).2.2.2.2.1 = pl1 at *
        obtain ⟨E1, E2⟩ := e2.fet (N := N) (X := X) (n := n + 1) (l1 := [((25 : Int32), (0 : Int32), pl1), ((13 : Int32), fa (inA code m1).2.1, pl1)]) (dd := 2) rfl p17 hm1 ec1 hcx (by omega)
        obtain ⟨F1, F2⟩ := E1.forget (N := N) (X := X)
        obtain ⟨va, i1, -⟩ := F2.top1 (N := N) (X := X) (cStk_0 (m' := m1) (d' := d1))
        obtain ⟨vb, i2⟩ := F2.peekA (N := N) (X := X) (by omega)
        obtain ⟨t6, c1, c2⟩ := F2.gotE (N := N) (X := X) (pc := Int32.ofNat (posC code m1 + 1)) (m' := m1) (d' := 1) (by omega) (by omega) hlt5
        have R6 := f2.gotE (m' := m1) (d' := 1) (by omega)
        refine goOn (k := 2) (j := 1) (by omega) (fun Q => ?_) (fun Q x2 => y11 s5 (href s5 f1) f2.1.2.2.1.1 Q x2) (c2.pc (z := Int32.ofNat (posC code m1 + 1)) (Or.inl rfl)) C2 rfl R6 R2 p69 (K.ret ⟨L, hL, Or.inr ⟨rfl, o10, Or.inl ⟨hr0, _, Iq, rfl, rfl, ⟨hk1, ?_⟩, hpl⟩⟩⟩ ⟨g', P'.1, P'.2.1.1, P'.2.1.2.1, P'.2.2.1.1, ?_, P'.2.2.2.1.2⟩ ?_ ?_ ?_)
        · rw [show Q + 2 = Q + 1 + 1 from rfl, hr2 (Q + 1), E2 Q]
          refine c_rdW (by decide) (by decide) (by decide) ((c_143o F1 i1 i2).trans (c_wk14.trans ?_))
          clear E1 E2 F1 F2 i1 i2 c2 e2 hr2
          unfold cf_143_283 cf_143_288 cf_143_296
          rw [c1]
          rfl
        · show (k0 + 1) % 2 = 0
          omega
        · refine ⟨by show (6 : Nat) ≤ 8; omega, fun q => (by rcases q with q | q <;> cases q), fun q => (by cases q), fun q => (by cases q), fun _ => ⟨x :: rs, y, rfl, ?_, w3, ?_⟩, fun q => (by cases q)⟩
          · show rs.length + 1 = (k0 + 1) / 2
            omega
          · show (k0 + 1 + 1) / 2 ≤ szN y
            omega
        · rw [cStk_6 (m' := m1) (d' := d1)]
          rw [cStk_6 (m' := m1) (d' := d1)] at hgG
          exact gd_c gd_Z (gd_c (fun y hy => by cases hy; exact hx) (fun y hy => hgG y (List.mem_cons_of_mem _ hy)))
        · rw [hpI, crL_c (I := Iq), crL_c (I := Iq)]
          show 2 + (3 + crL Iq) + 1 + (k0 / 2 + pvI Iq) ≤ 4 + _ + (3 + crL Iq) + ((k0 + 1) / 2 + pvI Iq)
          omega
        · rw [n5I_c (I := Iq), n5I_c (I := Iq)]
          show 0 + n5I Iq ≤ _ + (0 + n5I Iq)
          omega
      · -- fold
        have ea : I1 = a :: yy :: Iq := ea
        subst ea
        have hr0 : (inA code m1).2.2.1 = 2 := hr0
        obtain ⟨y, w1, w3, w4⟩ := P'.2.2.2.1.1.2.2.2.2.2 ha
        obtain ⟨c, w5⟩ := P'.2.2.2.1.2.1.2.1 (Or.inr hy)
        obtain ⟨a1, al, k0⟩ := a
        obtain ⟨y1', yl, j'⟩ := yy
        have ha : a1 = 8 := ha
        have hy : y1' = 7 := hy
        have w1 : al = [y] := w1
        have w5 : yl = [c] := w5
        subst ha w1 hy w5
        have hk2 : k0 % 2 = 1 := hk2
        have w4 : (k0 + 1) / 2 ≤ szN y := w4
        have wy : wfN y := by
          refine (hgG y ?_).1
          rw [cStk_8 (m' := m1) (d' := d1)]
          exact List.mem_cons_of_mem _ List.mem_cons_self
        have s64 := wf64 wy
        have n1 : ¬ (inA code m1).2.2.1 = 1 := by omega
        rw [if_neg n1, if_neg n1] at ec1
        generalize (inA code m1).2.2.2.2.1 = pl1 at *
        obtain ⟨E1, E2⟩ := e2.fet (N := N) (X := X) (n := n + 1) (l1 := [((25 : Int32), (0 : Int32), pl1), ((15 : Int32), fa (inA code m1).2.1, pl1)]) (dd := 2) rfl p17 hm1 ec1 hcx (by omega)
        obtain ⟨F1, F2⟩ := E1.forget (N := N) (X := X)
        obtain ⟨va, i1, -⟩ := F2.top1 (N := N) (X := X) (cStk_0 (m' := m1) (d' := d1))
        obtain ⟨vb, i2⟩ := F2.peekA (N := N) (X := X) (by omega)
        obtain ⟨t6, c1, c2⟩ := F2.gotF (N := N) (X := X) (pc := Int32.ofNat (posC code m1 + 1)) (m' := m1) (d' := 1) (by omega) (by omega) hlt5
        have R6 := f2.gotF (m' := m1) (d' := 1) (by omega)
        refine goOn (k := 2) (j := 1) (by omega) (fun Q => ?_) (fun Q x2 => y11 s5 (href s5 f1) f2.1.2.2.1.1 Q x2) (c2.pc (z := Int32.ofNat (posC code m1 + 1)) (Or.inl rfl)) C2 rfl R6 R2 p69 (K.ret ⟨L, hL, Or.inr ⟨rfl, o10, Or.inr ⟨hr0, _, _, Iq, rfl, rfl, rfl, ⟨hk1, ?_⟩, hpl⟩⟩⟩ ⟨g', P'.1, P'.2.1.1, P'.2.1.2.1, P'.2.2.1.1, ?_, okV, P'.2.2.2.1.2.2⟩ ?_ ?_ ?_)
        · rw [show Q + 2 = Q + 1 + 1 from rfl, hr2 (Q + 1), E2 Q]
          refine c_rdW (by decide) (by decide) (by decide) ((c_143o F1 i1 i2).trans (c_wk16.trans ?_))
          clear E1 E2 F1 F2 i1 i2 c2 e2 hr2
          unfold cf_143_291 cf_143_296
          rw [c1]
          rfl
        · show (k0 + 1) % 2 = 0
          omega
        · refine ⟨by show (8 : Nat) ≤ 8; omega, fun q => (by rcases q with q | q <;> cases q), fun q => (by cases q), fun q => (by cases q), fun q => (by cases q), fun _ => ⟨y, rfl, w3, ?_⟩⟩
          show (k0 + 1 + 1) / 2 ≤ szN y
          omega
        · rw [cStk_8 (m' := m1) (d' := d1), cStk_0 (m' := m1) (d' := d1)]
          rw [cStk_8 (m' := m1) (d' := d1), cStk_7 (m' := m1) (d' := d1)] at hgG
          refine gd_c gd_Z (gd_c (fun z hz => hgG z (by rw [← hz]; exact List.mem_cons_of_mem _ List.mem_cons_self)) (gd_c (fun y hy => by cases hy; exact hx) (fun y hy => hgG y ?_)))
          exact List.mem_cons_of_mem _ (List.mem_cons_of_mem _ (List.mem_cons_of_mem _ hy))
        · rw [hpI, crL_c (I := (0, [x], 0) :: Iq), crL_c (I := Iq), crL_c (I := (7, [c], j') :: Iq), crL_c (I := Iq)]
          show 2 + (3 + (0 + crL Iq)) + 1 + (1 + pvI Iq) ≤ 4 + _ + (3 + (0 + crL Iq)) + (1 + pvI Iq)
          omega
        · rw [n5I_c (I := (0, [x], 0) :: Iq), n5I_c (I := Iq), n5I_c (I := (7, [c], j') :: Iq), n5I_c (I := Iq)]
          show 0 + (0 + n5I Iq) ≤ _ + (0 + (0 + n5I Iq))
          omega
end GIV
