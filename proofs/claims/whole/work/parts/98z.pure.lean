/-! ===== PURE: run (103): instructions: get; what is said; a for begins ===== -/
section IN7
variable {N : Nat} {X : Nat → Option zz_C} {t0 t t1 t2 : cS} {s0 s s' s1 s2 : mS} {u w f f' p h fu m m' d d' n k b z j rr : Nat} {code : List Ins} {Fs : List Fn} {T T' : Ty} {out out' : List Int32} {F G : List Fm} {sh sh' S0 : Nat → Option Nod} {vs vs' : List (Option Nod)} {I I' J : List It} {q r pl kk v : Int32} {it : It} {x : Nod} {l : List Nod} {c : Ins} {L L' : List Nat} {g : Fn} {a a' : Fm}
theorem gV_gd (K : CK code Fs fu ((m, d, vs, I) :: G) sh T out n) (e : gV rr vs sh = some x) : wfN x ∧ x.1 ≤ 4 := by
  unfold gV at e
  by_cases c : rr < 8
  · rw [if_pos c] at e
    exact K.2.2.2.2.1 rr c x e
  · rw [if_neg c] at e
    refine K.2.2.2.1 x ?_
    show some x ∈ cIt I ++ (vs.reverse ++ cStk G)
    refine List.mem_append_right _ (List.mem_append_left _ (List.mem_reverse.mpr ?_))
    rw [List.getD_eq_getElem?_getD] at e
    cases e2 : vs[rr - 8]? with
    | none => rw [e2] at e; cases e
    | some o =>
      rw [e2] at e
      have e : o = some x := e
      rw [← e]
      exact List.mem_of_getElem? e2
/-- a trouble before anything was done -/
theorem trob0 {kq k0 : Nat} {ra : Int32} (hN : 500 ≤ N) (hq : 1 ≤ kq ∧ kq < 12) (h0 : 1 ≤ k0 ∧ k0 ≤ 5) (K : CK code Fs fu ((m, d, vs, I) :: G) sh T out n) (hT' : okTy fu T') (hTT : T.1 ≤ T'.1 ∧ T.2.1 ≤ T'.2.1) (C : CX t0 t2 p code Fs fu S0 u w ((m, d', vs, I) :: G) sh T' out) (C2 : u ≤ 100000 + 20 * T'.2.1 + 2100) (B : RBk s0 s2 h code Fs fu T' out (Int32.ofNat kq) pl) (M : RM0 s2 f h code ((m, d', vs, I) :: G) sh) (R2 : 154242 ≤ f ∧ f ≤ 154250 + T'.2.1 + 300) (hr : ra = if kq = 9 then s2.1 65 else 0) (hc : ∀ t3, cf_156 N X (Int32.ofNat kq) pl ra t2 = some (t3, .inl none) → ∀ Q, cf_141_L4 N X (Q + k0) 0 (Int32.ofNat n) t = cf_141_L4 N X Q 0 (Int32.ofNat (n + k0)) t3) (hs : ∀ Q x2, mf_68_L10 N (Q + (0 + 1)) 0 x2 s = mo_bi (mf_312 N s2) (fun s3 y => mf_68_L10 N Q 0 x2 s3)) (hn : n ≤ 597000) : GO N X t0 s0 p h code Fs fu S0 t s n := trob hN hq h0 (j0 := 0) (by omega) C.cy C2 B M R2 (by intro q; cases q) hr (K.kt (J := []) (I' := I) rfl hT' hTT (by omega)) hc hs (by omega)
theorem i_1 (hN : 170000 ≤ N) (C : CS t0 t p code Fs fu S0 ((m, 0, vs, I) :: G) sh T out) (R : RSm s0 s h code Fs fu ((m, 0, vs, I) :: G) sh T out) (K : CK code Fs fu ((m, 0, vs, I) :: G) sh T out n) (ho : (inA code m).1 = 1) : GO N X t0 s0 p h code Fs fu S0 t s n := by
  obtain ⟨u, w, f, g, C1, C2, C4, R1, R2, R4, P, hm, hcx, hrl, hG, ⟨b1, b2, b6⟩, hT, hol⟩ := open0 C R K
  obtain ⟨ec, er⟩ := cI_1 (code := code) (own := posC code m) (e := h) ho
  have hrr : (inA code m).2.2.1 < 8 + vs.length := P.2.2.2.2.1.1 (by omega)
  have hv14 := P.2.2.1.2
  have ef : eff (inA code m) (kd I) = some (0 :: kd I) := by
    generalize inA code m = c at *
    obtain ⟨o, jj, rr, aa, pp, xx, yy⟩ := c
    have ho : o = 1 := ho
    subst ho
    rfl
  obtain ⟨D1, D2⟩ := C1.fet (N := N) (X := X) (n := n) (l1 := []) rfl C4 hm ec hcx (by omega)
  obtain ⟨s1, kx, y1, y2, y3, y4, y5, y6, ⟨y7, y8, y9, y10⟩, y11, y12⟩ := R1.fet (N := N) (l1 := []) hG rfl R4 hm er hrl
  generalize (inA code m).2.2.2.2.1 = pl at *
  generalize hr0 : (inA code m).2.2.1 = rr at *
  obtain ⟨v, d1, d2⟩ := D1.var (N := N) (X := X) (q := pl) (by omega) hG hrr hv14
  obtain ⟨k0, v0, g1, g2, g3⟩ := r_get (N := N) y4 hG hrr hv14
  cases hgv : gV rr vs sh with
  | none =>
    rw [hgv] at d1 g3
    have d1 : v = bare := d1
    have g3 : k0 = Int32.ofNat 2 := g3
    obtain ⟨x1, x2, x3⟩ := y4.trb (N := N) (k := 7) (q := pl)
    refine trob0 (kq := 7) (k0 := 1) (ra := Int32.ofNat 0) (by omega) (by omega) (by omega) K hT ⟨Nat.le_refl _, Nat.le_refl _⟩ D1 (Nat.le_trans C2 (Nat.le_add_right _ _)) x2 x3 ⟨R2.1, Nat.le_trans R2.2 (Nat.le_add_right _ _)⟩ rfl (fun t3 ht Q => ?_) (y12 _ 7 ?_ rfl (by omega)) b6
    · rw [D2 Q]
      clear D1 D2
      generalize jI t 49 17 (Int32.ofNat (posC code m + 0 + 1)) = t1 at *
      refine c_rdM (by decide) (by decide) (c_mv1.trans ?_)
      have ek : cf_255 N X v t1 = some (t1, .inl (some (.int (-Int32.ofNat 1)))) := by rw [d1]; exact c_kindOf
      have e66 : cf_147_66 N X pl v t1 = some (t3, .inl none) := by
        unfold cf_147_66 cf_147_70 cf_147_74 cf_147_82 cf_147_90
        simp (disch := omega) only [ev_S, ev_C, ↓reduceIte, Nat.reduceEqDiff, Nat.reduceLeDiff, Nat.reduceAdd, Nat.reduceMul, Nat.reduceSub, reduceCtorEq, l32_0, l32_1, l32_2, l32_3, l32_4, l32_5, l32_6, l32_7, l32_8, l32_9, l32_10, l32_11, l32_12, l32_13, l32_14, l32_15, l32_16, l32_17, l32_18, l32_19, l32_20, l32_21, l32_22, l32_23, l32_24, l32_25, l32_26, l32_27, l32_28, l32_29, l32_33, l32_40, l32_41, l32_44, l32_45, l32_59, l32_61, l32_91, l32_93, l32_123, l32_125, ek, ht]
      rw [e66] at d2
      unfold cf_142_143 cf_142_149 cf_142_296
      simp (disch := omega) only [ev_S, ev_C, ↓reduceIte, Nat.reduceEqDiff, Nat.reduceLeDiff, Nat.reduceAdd, Nat.reduceMul, Nat.reduceSub, reduceCtorEq, l32_0, l32_1, l32_2, l32_3, l32_4, l32_5, l32_6, l32_7, l32_8, l32_9, l32_10, l32_11, l32_12, l32_13, l32_14, l32_15, l32_16, l32_17, l32_18, l32_19, l32_20, l32_21, l32_22, l32_23, l32_24, l32_25, l32_26, l32_27, l32_28, l32_29, l32_33, l32_40, l32_41, l32_44, l32_45, l32_59, l32_61, l32_91, l32_93, l32_123, l32_125, d2]
    · rw [r_op3 y3 y7]
      rw [g3] at g1
      unfold mf_313_133 mf_313_143 mf_313_147 mf_313_157 mf_313_184
      simp (disch := omega) only [ev_S, ev_P, ↓reduceIte, Nat.reduceEqDiff, Nat.reduceLeDiff, Nat.reduceAdd, Nat.reduceMul, Nat.reduceSub, reduceCtorEq, l32_0, l32_1, l32_2, l32_3, l32_4, l32_5, l32_6, l32_7, l32_8, l32_9, l32_10, l32_11, l32_12, l32_13, l32_14, l32_15, l32_16, l32_17, l32_18, l32_19, l32_20, l32_21, l32_22, l32_23, l32_24, l32_25, l32_26, l32_27, l32_28, l32_29, l32_33, l32_40, l32_41, l32_44, l32_45, l32_59, l32_61, l32_91, l32_93, l32_123, l32_125, y8, g1, y6, x1, l32_8000]
  | some x =>
    rw [hgv] at d1 g3
    have gx := gV_gd K hgv
    have g3 : rvl (s1.2.2.1 47) f k0 v0 x := g3
    obtain ⟨t2, a1, a2, a3, a4⟩ := D1.push (N := N) (X := X) (m' := m + 1) (d' := 0) (it := (0, [x], 0)) (o := some x) (by omega) d1 (by show ¬ (0 : Nat) = 3; decide) rfl
    obtain ⟨s2, c1, c2, c3, c4, c5⟩ := y4.push (N := N) (m' := m + 1) (d' := 0) (it := (0, [x], 0)) (by omega) g3 (by show ¬ ((0 : Nat) = 2 ∨ (0 : Nat) = 3 ∨ (0 : Nat) = 6 ∨ (0 : Nat) = 8); decide) rfl
    refine goOn (k := 1) (j := 1) (by omega) (fun Q => ?_) (fun Q x2 => y11 s2 ?_ c2.1.2.2.1.1 Q x2) a2 C2 ?_ c2 R2 ?_ (more1 (it := (0, [x], 0)) hcx K ef (Or.inl rfl) (fun b z => okV) rfl (fun y q => by cases q; exact gx) (by omega))
    · rw [D2 Q]
      clear D1 D2
      generalize jI t 49 17 (Int32.ofNat (posC code m + 0 + 1)) = t1 at *
      refine c_rdM (by decide) (by decide) (c_mv1.trans ?_)
      have ek := c_kn (N := N) (X := X) d1
      have lx := kn_le (x := x)
      have e66 : cf_147_66 N X pl v t1 = some (t2, .inl none) := by
        generalize kn x = kq at *
        unfold cf_147_66 cf_147_70 cf_147_85 cf_147_90
        simp (disch := omega) only [ev_S, ev_C, ↓reduceIte, Nat.reduceEqDiff, Nat.reduceLeDiff, Nat.reduceAdd, Nat.reduceMul, Nat.reduceSub, reduceCtorEq, l32_0, l32_1, l32_2, l32_3, l32_4, l32_5, l32_6, l32_7, l32_8, l32_9, l32_10, l32_11, l32_12, l32_13, l32_14, l32_15, l32_16, l32_17, l32_18, l32_19, l32_20, l32_21, l32_22, l32_23, l32_24, l32_25, l32_26, l32_27, l32_28, l32_29, l32_33, l32_40, l32_41, l32_44, l32_45, l32_59, l32_61, l32_91, l32_93, l32_123, l32_125, ek, a1]
      rw [e66] at d2
      unfold cf_142_143 cf_142_149 cf_142_296
      simp (disch := omega) only [ev_S, ev_C, ↓reduceIte, Nat.reduceEqDiff, Nat.reduceLeDiff, Nat.reduceAdd, Nat.reduceMul, Nat.reduceSub, reduceCtorEq, l32_0, l32_1, l32_2, l32_3, l32_4, l32_5, l32_6, l32_7, l32_8, l32_9, l32_10, l32_11, l32_12, l32_13, l32_14, l32_15, l32_16, l32_17, l32_18, l32_19, l32_20, l32_21, l32_22, l32_23, l32_24, l32_25, l32_26, l32_27, l32_28, l32_29, l32_33, l32_40, l32_41, l32_44, l32_45, l32_59, l32_61, l32_91, l32_93, l32_123, l32_125, d2]
    · rw [r_op3 y3 y7]
      have hk2 : k0 = Int32.ofNat 0 ∨ k0 = Int32.ofNat 1 := by
        rcases g3.kz with z | z
        · exact Or.inl z.1
        · exact Or.inr z.1
      have hk3 : ¬ k0 = Int32.ofNat 2 := by
        rcases hk2 with z | z <;> rw [z] <;> decide
      clear hk2
      unfold mf_313_133 mf_313_143 mf_313_160 mf_313_171 mf_313_181 mf_313_184
      simp (disch := omega) only [ev_S, ev_P, ↓reduceIte, Nat.reduceEqDiff, Nat.reduceLeDiff, Nat.reduceAdd, Nat.reduceMul, Nat.reduceSub, reduceCtorEq, l32_0, l32_1, l32_2, l32_3, l32_4, l32_5, l32_6, l32_7, l32_8, l32_9, l32_10, l32_11, l32_12, l32_13, l32_14, l32_15, l32_16, l32_17, l32_18, l32_19, l32_20, l32_21, l32_22, l32_23, l32_24, l32_25, l32_26, l32_27, l32_28, l32_29, l32_33, l32_40, l32_41, l32_44, l32_45, l32_59, l32_61, l32_91, l32_93, l32_123, l32_125, y8, g1, hk3, g2, c1, l32_8000]
    · rw [a3]
      show Int32.ofNat (posC code m + 0 + 1) = Int32.ofNat (posC code (m + 1) + 0)
      rw [posC_s hm, show clen (inA code m) = 1 by unfold clen; rw [ho]; rfl]
    · rw [c3, y5, y1]
      show Int32.ofNat (ob0 h + posR code m + 0 + 1) = Int32.ofNat (ob0 h + posR code (m + 1) + 0)
      rw [posR_s hm, show rlen (inA code m) = 1 by unfold rlen; rw [ho]; rfl]
      rfl
/-- what is told leaves the picture -/
theorem CX.tel (C : CX t0 t p code Fs fu S0 u w F sh T out) (hf : ofr t t2) (hO : cOut t2 out') : CX t0 t2 p code Fs fu S0 u w F sh T out' ∧ kI t2 49 17 = kI t 49 17 := by
  have g : gf (fun k f => k = 45 ∧ f = 1) (fun k => k = 46 ∨ k = 47) t t2 := ⟨hf.1, hf.2.1, hf.2.2.1, fun k r1 r2 => hf.2.2.2.1 k (fun q => r1 (Or.inl q)) (fun q => r1 (Or.inr q)) r2, hf.2.2.2.2⟩
  obtain ⟨⟨a1, a2, a3, a4, a5, a6⟩, ⟨z1, z2, z3, z4, z5, z6, z7, z8⟩, c3, c4⟩ := C
  have e : ∀ k, ¬ k = 46 → ¬ k = 47 → ¬ k = 111 → kA t2 k = kA t k ∧ kB t2 k = kB t k := fun k k1 k2 k3 => ⟨(hf.2.2.2.1 k k1 k2 k3).1, (hf.2.2.2.1 k k1 k2 k3).2.1⟩
  have i : ∀ k f, ¬ k = 45 → kI t2 k f = kI t k f := fun k f k1 => hf.1 k f (fun q => k1 q.1)
  have hr : rmK t2 := hO.2.2.2.2.2.2
  refine ⟨⟨⟨a1.keep g (fun f => ⟨fun q => by omega, fun q => by omega⟩) (fun k k1 k2 q => by omega), ?_, ?_, hO, ?_, a6.tr2 (g.mono2 (fun k f q => Or.inr (Or.inl q.1)) (fun k q => by show 43 ≤ k ∧ k ≤ 60; omega))⟩, ⟨z1.keep g (by decide) (by decide), cFr.keep (e 53 (by omega) (by omega) (by omega)).1 (e 54 (by omega) (by omega) (by omega)).1 z2, ?_, ?_, ?_, ?_, ?_, ?_⟩, ?_, ?_⟩, i 49 17 (by omega)⟩
  · unfold cTy
    rw [i 48 1 (by omega), i 48 2 (by omega), i 48 3 (by omega), i 48 4 (by omega), i 48 5 (by omega)]
    exact a2
  · rw [i 48 6 (by omega), i 48 7 (by omega), i 48 8 (by omega)]
    exact a3
  · rw [i 49 18 (by omega)]
    exact a5
  · rw [(e 55 (by omega) (by omega) (by omega)).1, (e 56 (by omega) (by omega) (by omega)).1, (e 57 (by omega) (by omega) (by omega)).1]
    exact z3
  · rw [(e 53 (by omega) (by omega) (by omega)).1, (e 54 (by omega) (by omega) (by omega)).1, (e 50 (by omega) (by omega) (by omega)).2, (e 51 (by omega) (by omega) (by omega)).1, (e 60 (by omega) (by omega) (by omega)).1]
    exact z4
  · rw [(e 55 (by omega) (by omega) (by omega)).1, (e 56 (by omega) (by omega) (by omega)).1, (e 57 (by omega) (by omega) (by omega)).1]
    exact z5
  · have ec : cel t2 = cel t := by unfold cel; rw [(e 43 (by omega) (by omega) (by omega)).2]
    rw [(e 50 (by omega) (by omega) (by omega)).2, (e 51 (by omega) (by omega) (by omega)).1, ec]
    exact z6
  · rw [i 49 11 (by omega)]; exact z7
  · rw [i 49 15 (by omega)]; exact z8
  · obtain ⟨h1, h2, h3, h4, h5, h6, h7, h8, h9⟩ := c3
    unfold cHp
    rw [i 42 1 (by omega), i 42 3 (by omega), (e 43 (by omega) (by omega) (by omega)).2, (e 44 (by omega) (by omega) (by omega)).2]
    exact ⟨h1, h2, h3, h4, h5, h6, h7, h8, hr⟩
  · rw [i 49 8 (by omega)]; exact c4
theorem RXm.tel (R : RXm s0 s h code Fs fu f (a :: G) sh T out) (hf : fF s s2) (hO : rOut s2 out') : RXm s0 s2 h code Fs fu f (a :: G) sh T out' ∧ s2.1 69 = s.1 69 ∧ s2.1 51 = s.1 51 ∧ s2.2.2.1 49 = s.2.2.1 49 ∧ s2.2.2.1 50 = s.2.2.1 50 ∧ s2.2.2.1 47 = s.2.2.1 47 := by
  obtain ⟨⟨a1, a2, a3, a4, a5⟩, r2, r3⟩ := R
  have iq : ∀ q, ¬ (q = 55 ∨ q = 87) → s2.1 q = s.1 q := hf.1
  have aq : ∀ q, ¬ (q = 52 ∨ q = 53 ∨ q = 54 ∨ q = 86) → s2.2.2.1 q = s.2.2.1 q := hf.2.2.1
  have gR : fRn s s2 := ⟨⟨fun q r => iq q (by unfold iRn at r; omega), fun q r => hf.2.1 q (fun z => z), fun q r => aq q (by unfold aRn at r; omega), hf.2.2.2⟩, fun y hy => by rw [aq 47 (by omega)]⟩
  refine ⟨⟨⟨a1.keep (fun q q1 q2 => aq q (by omega)), ?_, ?_, hO, a5.tr gR⟩, RM0.mv r2 (fun q r => aq q (by omega)) (iq 73 (by omega)) (iq 79 (by omega)) (Nat.le_refl _) (fun y _ => by rw [aq 47 (by omega)]) (by rw [iq 48 (by omega)]; exact r2.2.2.2.2.2.2.2) ?_ rfl rfl, by rw [iq 51 (by omega)]; exact r3⟩, iq 69 (by omega), iq 51 (by omega), aq 49 (by omega), aq 50 (by omega), aq 47 (by omega)⟩
  · unfold rTy
    rw [iq 61 (by omega), iq 60 (by omega), iq 62 (by omega), iq 63 (by omega), iq 64 (by omega)]
    exact a2
  · rw [iq 66 (by omega), iq 67 (by omega)]
    exact a3
  · rw [aq 47 (by omega), aq 49 (by omega), aq 50 (by omega)]
    exact r2.1
end IN7
