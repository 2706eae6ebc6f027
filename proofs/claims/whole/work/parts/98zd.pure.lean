/-! ===== PURE: run (107): instructions: signs, index, built-ins, literals ===== -/
section IN9
variable {N : Nat} {X : Nat → Option zz_C} {t0 t t1 t2 : cS} {s0 s s' s1 s2 : mS} {u w f f' p h fu m m' d d' n k b z j jn k0 nb an o : Nat} {code : List Ins} {Fs : List Fn} {T T' T1 : Ty} {out out' : List Int32} {F G : List Fm} {sh sh' S0 : Nat → Option Nod} {vs vs' : List (Option Nod)} {I I' J : List It} {q r pl kk gg a1 b1 c1 : Int32} {v va vb : Int64} {it : It} {x y : Nod} {l : List Nod} {L L' : List Nat} {g : Fn} {a a' : Fm} {ans : Ans} {xs : List Nod}
theorem pv_app : ∀ {J : List It}, (∀ y ∈ J, y.1 = 0 ∨ y.1 = 1) → pvI (J ++ I') = J.length + pvI I'
  | [], _ => (Nat.zero_add _).symm
  | a :: J, hh => by
    have h1 := hh a List.mem_cons_self
    have ih := pv_app (J := J) (fun y hy => hh y (List.mem_cons_of_mem _ hy))
    show (if a.1 = 0 ∨ a.1 = 1 ∨ a.1 = 7 then 1 + pvI (J ++ I') else _) = _
    rw [if_pos (by omega), ih, List.length_cons]
    omega
/-- values on top, by the layout -/
theorem topV (K : CK code Fs fu ((m, 0, vs, I) :: G) sh T out n) (P : PL code Fs m vs I g) (hp : pop0 k (kd I) = some L) : ∃ (xs : List Nod) (J I' : List It), I = J ++ I' ∧ xs.length = k ∧ rIt J = xs.reverse ∧ cIt J = xs.reverse.map some ∧ (∀ y ∈ J, y.1 = 0) ∧ J.length = k ∧ kd I' = L ∧ ∀ x ∈ xs, wfN x ∧ x.1 ≤ 4 := by
  obtain ⟨xs, J, I', e1, e2, e3, e4, e5, e6, e7, e8⟩ := popV P.2.2.2.1 hp
  refine ⟨xs, J, I', e1, e2, e3, e4, e5, e6, e7, fun x hx => K.2.2.2.1 x ?_⟩
  rw [e1, cStk_app (m' := m) (d' := 0), e4]
  exact List.mem_append_left _ (List.mem_map.mpr ⟨x, List.mem_reverse.mpr hx, rfl⟩)
theorem two_xs (h : xs.length = 2) : ∃ x y, xs = [x, y] := by
  match xs, h with
  | [x, y], _ => exact ⟨x, y, rfl⟩
theorem one_xs (h : xs.length = 1) : ∃ x, xs = [x] := by
  match xs, h with
  | [x], _ => exact ⟨x, rfl⟩
theorem sg_ok {k : Nat} (h : okS k ∧ lv k ≤ 3) : isS (sgv k) ∧ sgC (sgv k) = k := by
  obtain ⟨h1, h2⟩ := h
  have key : k = 43 ∨ k = 45 ∨ k = 42 ∨ k = 47 ∨ k = 37 ∨ k = 38 ∨ k = 124 ∨ k = 317 ∨ k = 289 ∨ k = 60 ∨ k = 316 ∨ k = 62 ∨ k = 318 := by
    unfold lv at h2
    repeat' (split at h2)
    all_goals omega
  rcases key with e | e | e | e | e | e | e | e | e | e | e | e | e <;> subst e <;> exact ⟨by unfold isS sgv; decide, by decide⟩
theorem effM {c : Ins} (ho : c.1 = 5 ∨ c.1 = 7) (e : eff c L = some L') : ∃ M, pop0 2 L = some M ∧ L' = 0 :: M := by
  obtain ⟨o', jj, r0, aa, pp, xx, yy⟩ := c
  have key : (pop0 2 L).map (0 :: ·) = some L' := by
    rcases ho with z | z
    · have z : o' = 5 := z
      subst z; exact e
    · have z : o' = 7 := z
      subst z; exact e
  cases hM : pop0 2 L with
  | none => rw [hM] at key; cases key
  | some M =>
    rw [hM] at key
    exact ⟨M, rfl, (Option.some.inj key).symm⟩
theorem i_5 (hN : 170000 ≤ N) (C : CS t0 t p code Fs fu S0 ((m, 0, vs, I) :: G) sh T out) (R : RSm s0 s h code Fs fu ((m, 0, vs, I) :: G) sh T out) (K : CK code Fs fu ((m, 0, vs, I) :: G) sh T out n) (ho : (inA code m).1 = 5) : GO N X t0 s0 p h code Fs fu S0 t s n := by
  obtain ⟨g, P⟩ := K.pl0
  obtain ⟨L', z3, z4⟩ := K.nxt
  obtain ⟨M, hM1, hM2⟩ := effM (Or.inl ho) z3
  obtain ⟨xs, J, I', e1, e2, e3, e4, e5, e6, e7, e8⟩ := topV K P hM1
  obtain ⟨x, y, rfl⟩ := two_xs e2
  obtain ⟨hs1, hs2⟩ := sg_ok (P.2.2.2.2.1.2.1 ho)
  obtain ⟨ec, er⟩ := cI_5 (code := code) (own := posC code m) (e := h) ho
  have hx := e8 x List.mem_cons_self
  have hy := e8 y (List.mem_cons_of_mem _ List.mem_cons_self)
  generalize hsg : sgv (inA code m).2.2.1 = sg at *
  generalize hsr : (inA code m).2.2.1 = sr at *
  refine vopS (an := 19) (o := 5) (jn := 2) (xs := [x, y]) (ans := ansT sg x y) hN C R K ec (by omega) er (by omega) (by unfold clen; rw [ho]; rfl) (by unfold rlen; rw [ho]; rfl) (by omega) e1 (fun y hy => Or.inl (e5 y hy)) e3 (by rw [e4]; rfl) (by rw [z3, hM2, e7]) (fun tS u' hu CS1 => ?_) (fun sS nb f' kx hkx A LE A2 A3 A4 A5 => ?_) okAn_T (fun x' hx' => ?_) e8
  · have eC : cStk ((m, 0, vs, I) :: G) = some y :: some x :: cStk ((m, 0, vs, I') :: G) := by
      rw [e1, cStk_app (m' := m) (d' := 0), e4]
      rfl
    obtain ⟨va, p1, p2⟩ := CS1.top1 (N := N) (X := X) eC
    obtain ⟨vb, p3, p4⟩ := CS1.top2 (N := N) (X := X) eC
    obtain ⟨t2, v, q1, q2⟩ := c_two (N := N) (X := X) (sg := sg) hN hs1 CS1.2.2.1 p4 p2 hx.1 hy.1 hu (Nat.zero_le _)
    refine ⟨t2, v, q2.F, fun va' vb' h1 h2 t3 ht => ?_⟩
    rw [p1] at h1
    rw [p3] at h2
    cases h1
    cases h2
    rw [hs2] at q1
    refine c_wk19.trans ?_
    unfold cf_143_88 cf_143_101 cf_143_106 cf_143_296
    simp (disch := omega) only [ev_S, ev_C, ↓reduceIte, Nat.reduceEqDiff, Nat.reduceLeDiff, Nat.reduceAdd, Nat.reduceMul, Nat.reduceSub, reduceCtorEq, l32_0, l32_1, l32_2, l32_3, l32_4, l32_5, l32_6, l32_7, l32_8, l32_9, l32_10, l32_11, l32_12, l32_13, l32_14, l32_15, l32_16, l32_17, l32_18, l32_19, l32_20, l32_21, l32_22, l32_23, l32_24, l32_25, l32_26, l32_27, l32_28, l32_29, l32_33, l32_40, l32_41, l32_44, l32_45, l32_59, l32_61, l32_91, l32_93, l32_123, l32_125, q1, ht]
  · obtain ⟨s2, q1, q2⟩ := r_two (N := N) (sg := sg) hN hs1 A
    refine ⟨s2, ?_, q2⟩
    rw [r_wk5 hkx A3]
    unfold mf_316_55 mf_316_65
    simp (disch := omega) only [ev_S, ev_P, ↓reduceIte, Nat.reduceEqDiff, Nat.reduceLeDiff, Nat.reduceAdd, Nat.reduceMul, Nat.reduceSub, reduceCtorEq, l32_0, l32_1, l32_2, l32_3, l32_4, l32_5, l32_6, l32_7, l32_8, l32_9, l32_10, l32_11, l32_12, l32_13, l32_14, l32_15, l32_16, l32_17, l32_18, l32_19, l32_20, l32_21, l32_22, l32_23, l32_24, l32_25, l32_26, l32_27, l32_28, l32_29, l32_33, l32_40, l32_41, l32_44, l32_45, l32_59, l32_61, l32_91, l32_93, l32_123, l32_125, A4, q1, l32_8000]
  · rw [pv_app (fun y hy => Or.inl (e5 y hy)), e6]
    omega
theorem i_7 (hN : 170000 ≤ N) (C : CS t0 t p code Fs fu S0 ((m, 0, vs, I) :: G) sh T out) (R : RSm s0 s h code Fs fu ((m, 0, vs, I) :: G) sh T out) (K : CK code Fs fu ((m, 0, vs, I) :: G) sh T out n) (ho : (inA code m).1 = 7) : GO N X t0 s0 p h code Fs fu S0 t s n := by
  obtain ⟨g, P⟩ := K.pl0
  obtain ⟨L', z3, z4⟩ := K.nxt
  obtain ⟨M, hM1, hM2⟩ := effM (Or.inr ho) z3
  obtain ⟨xs, J, I', e1, e2, e3, e4, e5, e6, e7, e8⟩ := topV K P hM1
  obtain ⟨x, y, rfl⟩ := two_xs e2
  obtain ⟨ec, er⟩ := cI_7 (code := code) (own := posC code m) (e := h) ho
  have hx := e8 x List.mem_cons_self
  have hy := e8 y (List.mem_cons_of_mem _ List.mem_cons_self)
  refine vopS (an := 21) (o := 7) (jn := 2) (xs := [x, y]) (ans := ansI x y) hN C R K ec (by omega) er (by omega) (by unfold clen; rw [ho]; rfl) (by unfold rlen; rw [ho]; rfl) (by omega) e1 (fun y hy => Or.inl (e5 y hy)) e3 (by rw [e4]; rfl) (by rw [z3, hM2, e7]) (fun tS u' hu CS1 => ?_) (fun sS nb f' kx hkx A LE A2 A3 A4 A5 => ?_) okAn_I (fun x' hx' => ?_) e8
  · have eC : cStk ((m, 0, vs, I) :: G) = some y :: some x :: cStk ((m, 0, vs, I') :: G) := by
      rw [e1, cStk_app (m' := m) (d' := 0), e4]
      rfl
    obtain ⟨va, p1, p2⟩ := CS1.top1 (N := N) (X := X) eC
    obtain ⟨vb, p3, p4⟩ := CS1.top2 (N := N) (X := X) eC
    obtain ⟨t2, v, q1, q2⟩ := c_idx (N := N) (X := X) hN CS1.2.2.1 p4 p2 hx.1 hx.2 hy.1 hu (Nat.zero_le _)
    refine ⟨t2, v, q2.F, fun va' vb' h1 h2 t3 ht => ?_⟩
    rw [p1] at h1
    rw [p3] at h2
    cases h1
    cases h2
    refine c_wk21.trans ?_
    unfold cf_143_109 cf_143_121 cf_143_126 cf_143_296
    simp (disch := omega) only [ev_S, ev_C, ↓reduceIte, Nat.reduceEqDiff, Nat.reduceLeDiff, Nat.reduceAdd, Nat.reduceMul, Nat.reduceSub, reduceCtorEq, l32_0, l32_1, l32_2, l32_3, l32_4, l32_5, l32_6, l32_7, l32_8, l32_9, l32_10, l32_11, l32_12, l32_13, l32_14, l32_15, l32_16, l32_17, l32_18, l32_19, l32_20, l32_21, l32_22, l32_23, l32_24, l32_25, l32_26, l32_27, l32_28, l32_29, l32_33, l32_40, l32_41, l32_44, l32_45, l32_59, l32_61, l32_91, l32_93, l32_123, l32_125, q1, ht]
  · obtain ⟨s2, q1, q2⟩ := r_idx (N := N) hN A
    refine ⟨s2, ?_, q2⟩
    rw [r_wk7 hkx A3]
    unfold mf_316_82 mf_316_86
    simp (disch := omega) only [ev_S, ev_P, ↓reduceIte, Nat.reduceEqDiff, Nat.reduceLeDiff, Nat.reduceAdd, Nat.reduceMul, Nat.reduceSub, reduceCtorEq, l32_0, l32_1, l32_2, l32_3, l32_4, l32_5, l32_6, l32_7, l32_8, l32_9, l32_10, l32_11, l32_12, l32_13, l32_14, l32_15, l32_16, l32_17, l32_18, l32_19, l32_20, l32_21, l32_22, l32_23, l32_24, l32_25, l32_26, l32_27, l32_28, l32_29, l32_33, l32_40, l32_41, l32_44, l32_45, l32_59, l32_61, l32_91, l32_93, l32_123, l32_125, q1]
  · rw [pv_app (fun y hy => Or.inl (e5 y hy)), e6]
    omega
/-- a minus: 3 -/
theorem i_3 (hN : 170000 ≤ N) (C : CS t0 t p code Fs fu S0 ((m, 0, vs, I) :: G) sh T out) (R : RSm s0 s h code Fs fu ((m, 0, vs, I) :: G) sh T out) (K : CK code Fs fu ((m, 0, vs, I) :: G) sh T out n) (ho : (inA code m).1 = 3) : GO N X t0 s0 p h code Fs fu S0 t s n := by
  obtain ⟨g, P⟩ := K.pl0
  obtain ⟨L', z3, z4⟩ := K.nxt
  obtain ⟨M, hM1, hM2⟩ : ∃ M, kd I = 0 :: 1 :: M ∧ L' = 0 :: M := by
    generalize inA code m = c at *
    obtain ⟨o', jj, r0, aa, pp, xx, yy⟩ := c
    have z : o' = 3 := ho
    subst z
    have z3 : (match (generalizing := false) kd I with | 0 :: 1 :: M => some (0 :: M) | _ => none) = some L' := z3
    split at z3
    · rename_i M hM
      exact ⟨M, hM, (Option.some.inj z3).symm⟩
    · cases z3
  obtain ⟨x, j, I1, q1, q2, q3⟩ := kdV0 hM1 P.2.2.2.1
  obtain ⟨a, I', r1, r2, r3⟩ := kdC q2
  subst r1
  obtain ⟨ec, er⟩ := cI_3 (code := code) (own := posC code m) (e := h) ho
  have e1 : I = [((0, [x], j) : It), a] ++ I' := q1
  have hx : wfN x ∧ x.1 ≤ 4 := K.2.2.2.1 x (by rw [q1, cStk_cons (m' := m) (d' := 0)]; exact List.mem_append_left _ List.mem_cons_self)
  have iCa : iC a = [some (nZ 0)] := by
    unfold iC
    rw [if_neg (by omega), if_pos r2]
  have iRa : iR a = [] := by
    unfold iR
    rw [if_neg (by omega), if_neg (by omega)]
  have hJ : ∀ y ∈ [((0, [x], j) : It), a], y.1 = 0 ∨ y.1 = 1 := fun y hy => by
    rcases List.mem_cons.mp hy with e | e
    · rw [e]; exact Or.inl rfl
    · rw [List.mem_singleton.mp e]; exact Or.inr r2
  refine vopS (an := 19) (o := 4) (jn := 2) (xs := [x]) (ans := ansT 45 (nZ 0) x) hN C R K ec (by omega) er (by omega) (by unfold clen; rw [ho]; rfl) (by unfold rlen; rw [ho]; rfl) (by omega) e1 hJ ?_ ?_ (by rw [z3, hM2, r3]) (fun tS u' hu CS1 => ?_) (fun sS nb f' kx hkx A LE A2 A3 A4 A5 => ?_) okAn_T (fun x' hx' => ?_) (fun y hy => by rw [List.mem_singleton.mp hy]; exact hx)
  · show iR _ ++ (iR a ++ []) = _
    rw [iRa]
    rfl
  · show (iC _ ++ (iC a ++ [])).length = _
    rw [iCa]
    rfl
  · have eC : cStk ((m, 0, vs, I) :: G) = some x :: some (nZ 0) :: cStk ((m, 0, vs, I') :: G) := by
      rw [q1, cStk_cons (m' := m) (d' := 0), cStk_cons (m' := m) (d' := 0), iCa]
      rfl
    obtain ⟨va, p1, p2⟩ := CS1.top1 (N := N) (X := X) eC
    obtain ⟨vb, p3, p4⟩ := CS1.top2 (N := N) (X := X) eC
    obtain ⟨t2, v, u1, u2⟩ := c_two (N := N) (X := X) (sg := 45) hN (by unfold isS; omega) CS1.2.2.1 p4 p2 trivial hx.1 hu (Nat.zero_le _)
    refine ⟨t2, v, u2.F, fun va' vb' h1 h2 t3 ht => ?_⟩
    rw [p1] at h1
    rw [p3] at h2
    cases h1
    cases h2
    refine c_wk19.trans ?_
    have u1 : cf_222 N X (Int32.ofNat 45) vb va tS = _ := u1
    unfold cf_143_88 cf_143_101 cf_143_106 cf_143_296
    simp (disch := omega) only [ev_S, ev_C, ↓reduceIte, Nat.reduceEqDiff, Nat.reduceLeDiff, Nat.reduceAdd, Nat.reduceMul, Nat.reduceSub, reduceCtorEq, l32_0, l32_1, l32_2, l32_3, l32_4, l32_5, l32_6, l32_7, l32_8, l32_9, l32_10, l32_11, l32_12, l32_13, l32_14, l32_15, l32_16, l32_17, l32_18, l32_19, l32_20, l32_21, l32_22, l32_23, l32_24, l32_25, l32_26, l32_27, l32_28, l32_29, l32_33, l32_40, l32_41, l32_44, l32_45, l32_59, l32_61, l32_91, l32_93, l32_123, l32_125, u1, ht]
  · obtain ⟨s2, u1, u2⟩ := r_neg (N := N) hN A
    refine ⟨s2, ?_, u2⟩
    rw [r_wk4 hkx A3]
    have A4 : sS.2.2.1 24 kx = Int32.ofNat 45 := A4
    unfold mf_316_44 mf_316_54
    simp (disch := omega) only [ev_S, ev_P, ↓reduceIte, Nat.reduceEqDiff, Nat.reduceLeDiff, Nat.reduceAdd, Nat.reduceMul, Nat.reduceSub, reduceCtorEq, l32_0, l32_1, l32_2, l32_3, l32_4, l32_5, l32_6, l32_7, l32_8, l32_9, l32_10, l32_11, l32_12, l32_13, l32_14, l32_15, l32_16, l32_17, l32_18, l32_19, l32_20, l32_21, l32_22, l32_23, l32_24, l32_25, l32_26, l32_27, l32_28, l32_29, l32_33, l32_40, l32_41, l32_44, l32_45, l32_59, l32_61, l32_91, l32_93, l32_123, l32_125, A4, u1, l32_8000]
  · rw [pv_app hJ]
    show 2 + _ ≤ _
    omega
end IN9
