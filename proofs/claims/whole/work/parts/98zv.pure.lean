/-! ===== PURE: run (125): each calls ===== -/
section NXE
variable {N : Nat} {X : Nat → Option zz_C} {t0 t t1 t2 : cS} {s0 s s1 s2 : mS} {u w f p h fu m m' d d' n k b j fi : Nat} {code : List Ins} {Fs : List Fn} {T T1 : Ty} {out : List Int32} {G F : List Fm} {sh S0 : Nat → Option Nod} {vs : List (Option Nod)} {I J I' Iq : List It} {q z pl : Int32} {x y c : Nod} {rs xs : List Nod} {g : Fn} {L : List Nat}
theorem CK.ent2 (K : CK code Fs fu ((m, d, vs, I) :: G) sh T out n) (P : PL code Fs m vs I g) (hG : G.length ≤ 8) (hfi : fi < Fs.length) (hx : ∀ x ∈ xs, wfN x ∧ x.1 ≤ 4) (hsus : tyS code (m, d', vs, I')) (hok : okIs code g.2.2.2.2.1 g.2.2.2.2.2 I') (hnv : xs.length ≤ Fs[fi].2.2.2.1) (hT1 : okTy fu T1 ∧ T1.2.1 = T.2.1 ∧ T1.1 = T.1 + 1) (hg : gdS (cStk ((m, d', vs, I') :: G))) (hpot : k + 4 + crL I' + pvI I ≤ crL I + 20 + pvI I') (h5 : n5I I' ≤ n5I I) : CK code Fs fu ((Fs[fi].2.2.2.2.1, 0, xs.map some ++ List.replicate (Fs[fi].2.2.2.1 - xs.length) none, []) :: (m, d', vs, I') :: G) sh (opT T1 (G.length + 2)) out (n + k) := by
  obtain ⟨⟨h1, h2⟩, h3, ⟨a, G', e', t1, t2, t3⟩, h6, h7, h8, h9⟩ := K
  cases e'
  obtain ⟨hT1a, hT1b, hT1c⟩ := hT1
  have hFO := h1.1 Fs[fi] (List.getElem_mem hfi)
  refine ⟨⟨h1, hT1a.1, hT1a.2.1, hT1a.2.2.1, ?_, hT1a.2.2.2.2⟩, ?_, ⟨_, _, rfl, ⟨[], hFO.2.2.1, Or.inl ⟨rfl, rfl, fun y hy => by cases hy⟩⟩, ⟨Fs[fi], List.getElem_mem hfi, Nat.le_refl _, hFO.1, ?_, trivial⟩, fun c hc => ?_⟩, fun x hx' => ?_, h7, ?_, ?_⟩
  · show (if T1.2.2.1 < G.length + 2 then G.length + 2 else T1.2.2.1) ≤ 10
    have := hT1a.2.2.2.1
    split <;> omega
  · show G.length + 1 + 1 ≤ 10
    omega
  · show (xs.map some ++ List.replicate (Fs[fi].2.2.2.1 - xs.length) none).length = _
    rw [List.length_append, List.length_map, List.length_replicate]
    omega
  · rcases List.mem_cons.mp hc with e | e
    · rw [e]
      exact ⟨hsus, g, P.1, P.2.1.1, P.2.1.2.1, P.2.2.1.1, hok⟩
    · exact t3 c e
  · have hx' : some x ∈ [] ++ ((xs.map some ++ List.replicate (Fs[fi].2.2.2.1 - xs.length) none).reverse ++ cStk ((m, d', vs, I') :: G)) := hx'
    rcases List.mem_append.mp hx' with e | e
    · cases e
    · rcases List.mem_append.mp e with e | e
      · rcases List.mem_append.mp (List.mem_reverse.mp e) with e | e
        · obtain ⟨y, hy, e2⟩ := List.mem_map.mp e
          cases e2
          exact hx x hy
        · have := List.eq_of_mem_replicate e
          cases this
      · exact hg x e
  · have h8 : n + (4 + crL I + cr G) ≤ 20 * T.1 + 60 * T.2.1 + (pvI I + pv G) + 4 := h8
    show n + k + (4 + 0 + (4 + crL I' + cr G)) ≤ 20 * T1.1 + 60 * T1.2.1 + (0 + (pvI I' + pv G)) + 4
    rw [hT1b, hT1c]
    omega
  · have h9 : out.length + 9100 * (n5I I + n5 G) ≤ 9100 * T.1 := h9
    show out.length + 9100 * (0 + (n5I I' + n5 G)) ≤ 9100 * T1.1
    rw [hT1c]
    omega
theorem n_each (hN : 170000 ≤ N) (C : CS t0 t p code Fs fu S0 ((m, 1, vs, (6, rs ++ [y], k) :: Iq) :: G) sh T out) (R : RSm s0 s h code Fs fu ((m, 1, vs, (6, rs ++ [y], k) :: Iq) :: G) sh T out) (K : CK code Fs fu ((m, 1, vs, (6, rs ++ [y], k) :: Iq) :: G) sh T out n) (ho : (inA code m).1 = 10) (hr : (inA code m).2.2.1 = 1) (hL : lyo (code.take m) = some L) (hk1 : pop0 1 L = some (kd Iq)) (hk2 : k % 2 = 0) (hpl : plI Iq) (hi : k / 2 < szN y) (hs : T.1 < fu) (hG8 : G.length ≤ 8) : GO N X t0 s0 p h code Fs fu S0 t s n := by
  obtain ⟨u, w, f, g, C1, C2, C4, R1, R2, R4, P, hm, hcx, hrl, hG, ⟨b1, b2, b6⟩, hT, hol⟩ := open0 C R K
  obtain ⟨ec, er⟩ := cI_10 (code := code) (own := posC code m) (e := h) ho
  obtain ⟨hfi, hpar⟩ := K.1.1.2.1 m hm (Or.inr ho)
  have hfi : (inA code m).2.1 < Fs.length := hfi
  have hpar : Fs[(inA code m).2.1].2.2.1 = (inA code m).2.2.1 := hpar
  have hFO := K.1.1.1 _ (List.getElem_mem hfi)
  have hF12 : Fs.length ≤ 12 := C1.1.1.2.2.2.2.1
  have hbd := K.bd
  have h30 := hT.2.2.1
  obtain ⟨rs', y', w1, w2, w3, w4⟩ := P.2.2.2.1.1.2.2.2.2.1 rfl
  have w1 : rs ++ [y] = rs' ++ [y'] := w1
  obtain ⟨ea, eb⟩ := List.append_inj' w1 rfl
  have eb : y = y' := by simpa using eb
  subst ea eb
  have w2 : rs.length = k / 2 := w2
  have hgK := K.2.2.2.1
  have wy : wfN y ∧ y.1 ≤ 4 := by
    refine hgK y ?_
    rw [cStk_6 (m' := m) (d' := 0)]
    exact List.mem_cons_of_mem _ (List.mem_append_left _ (List.mem_map.mpr ⟨y, List.mem_append_right _ List.mem_cons_self, rfl⟩))
  have s64 := wf64 wy.1
  have hnv : 1 ≤ Fs[(inA code m).2.1].2.2.2.1 ∧ Fs[(inA code m).2.1].2.2.2.1 ≤ 14 := by
    have := hFO.2.2.2.2.2.2.1
    rw [hr] at hpar
    omega
  rw [if_pos hr, if_pos hr, fa_e (by omega)] at ec
  rw [fr_fb (by omega)] at er
  generalize (inA code m).2.2.2.2.1 = pl at *
  have hcBk : cBk code ((m, 1, vs, (6, rs ++ [y], k + 1) :: Iq) :: G) = posC code m + 2 := by
    show posC code m + (if (inA code m).1 = 10 then 2 else 1) = _
    rw [if_pos ho]
  generalize hfe : (inA code m).2.1 = fi at *
  obtain ⟨D1, D2⟩ := C1.fet (N := N) (X := X) (n := n) (l1 := [((25 : Int32), (0 : Int32), pl)]) (dd := 1) rfl C4 hm ec hcx (by omega)
  obtain ⟨s1, kx, y1, y2, y3, y4, y5, y6, ⟨y7, y8, y9, y10⟩, y11, y12⟩ := R1.fet (N := N) (l1 := [((10 : Int32), Int32.ofNat (27 + (inA code m).2.2.1), (0 : Int32), (0 : Int32), pl)]) (dd := 1) hG rfl R4 hm er hrl
  obtain ⟨F1, F2⟩ := D1.forget (N := N) (X := X)
  obtain ⟨va, i1, i2⟩ := F2.top1 (N := N) (X := X) (cStk_6 (m' := m) (d' := 0))
  obtain ⟨vb, i3⟩ := F2.peekA (N := N) (X := X) (by omega)
  obtain ⟨t4, e1, e2, e3⟩ := F2.eachA (N := N) (X := X) (fz := Int32.ofNat fi) (pl := pl) b2 w2 w3 hi s64 hT.1 hs
  have E6 : cStk ((m, 1, vs, (6, rs ++ [y], k + 1) :: Iq) :: G) = cStk ((m, 1, vs, (6, rs ++ [y], k) :: Iq) :: G) := by
    rw [cStk_6 (m' := m) (d' := 0), cStk_6 (m' := m) (d' := 0), show (k + 1) / 2 = k / 2 by omega]
  have e1' : CX t0 t4 p code Fs fu S0 u 0 ((m, 1, vs, [(0, [elN y (k / 2)], 0)] ++ (6, rs ++ [y], k + 1) :: Iq) :: G) sh (T.1 + 1, T.2) out := by
    refine e1.re ?_ ?_
    · show cStk ((m, 1, vs, (0, [elN y (k / 2)], 0) :: (6, rs ++ [y], k + 1) :: Iq) :: G) = _
      rw [cStk_0 (m' := m) (d' := 1), cStk_0 (m' := m) (d' := 1), E6]
    · show tStk ((m, 1, vs, (0, [elN y (k / 2)], 0) :: (6, rs ++ [y], k + 1) :: Iq) :: G) = _
      rw [tStk_0 (m' := m) (d' := 1), tStk_0 (m' := m) (d' := 1), tStk_678 (m' := m) (d' := 1) (Or.inl rfl), tStk_678 (m' := m) (d' := 1) (Or.inl rfl)]
  obtain ⟨t5, v1, v2, v3⟩ := e1'.enter (N := N) (X := X) (d' := 1) (fi := fi) (q := pl) (xs := [elN y (k / 2)]) hN rfl (fun a ha => by rw [List.mem_singleton.mp ha]; show ¬ (0 : Nat) = 3; decide) hfi hG8 (by rw [hcBk]; exact e2) (by show (cStk ((m, 1, vs, (0, [elN y (k / 2)], 0) :: (6, rs ++ [y], k + 1) :: Iq) :: G)).length ≤ _; rw [cStk_0 (m' := m) (d' := 1), E6, List.length_cons]; omega) hnv hT.2.2.2.1
  have hstep := r_step (N := N) y4 hT.1 hs
  obtain ⟨s4, f1, f2, f3⟩ := (y4.st).nextA (N := N) (m' := m) (d' := 1) (kx := kx) rfl hstep (Or.inl rfl) hk2 y3 b1 hbd.2.2.1 w3 hi s64 (by omega) hG8
  have hbk : rBk h code ((m, 1, vs, (6, rs ++ [y], k + 1) :: Iq) :: G) = Int32.ofNat kx := by
    rw [y1]
    rfl
  have hrl6 : (rStk ((m, 1, vs, (0, [elN y (k / 2)], 0) :: (6, rs ++ [y], k + 1) :: Iq) :: G)).length ≤ 8800 := by
    rw [rStk_cons (m' := m) (d' := 1), rStk_cons (m' := m) (d' := 1)]
    rw [rStk_cons (m' := m) (d' := 1)] at b1
    rw [List.length_append]
    show 1 + (iR (6, rs ++ [y], k) ++ rStk ((m, 1, vs, Iq) :: G)).length ≤ _
    omega
  obtain ⟨s5, r1, r2, r3⟩ := RXm.enter (N := N) (d' := 1) (fi := fi) (J := [(0, [elN y (k / 2)], 0)]) (xs := [elN y (k / 2)]) hN f1 rfl (wStk_v (fun a ha => by rw [List.mem_singleton.mp ha])) hfi hF12 hG8 hrl6 hnv hT.2.2.2.1
  rw [hbk] at r1
  have y9' : (mI s1 60 (Int32.ofNat (T.1 + 1))).2.2.1 25 kx = Int32.ofNat (fb0 h + fi) := y9
  have h317 : mf_317 N (Int32.ofNat kx) s1 = some (s5, none) := f3 s5 (by rw [y9']; exact r1)
  have hT1 : okTy fu (T.1 + 1, T.2) := ⟨hT.1, hs, hT.2.2⟩
  have hel : wfN (elN y (k / 2)) ∧ (elN y (k / 2)).1 ≤ 4 := elN_ok wy (by unfold lim; rw [if_neg w3]; exact hi)
  refine goOn (k := 1) (j := 1) (by omega) (fun Q => ?_) (fun Q x2 => y11 s5 ?_ r2.1.2.2.1.1 Q x2) v2 C2 v3 r2 R2 r3 (K.ent2 P hG8 hfi (xs := [elN y (k / 2)]) (fun a ha => by rw [List.mem_singleton.mp ha]; exact hel) ⟨L, hL, Or.inr ⟨ho, Or.inl ⟨hr, _, Iq, rfl, rfl, ⟨hk1, ?_⟩, hpl⟩⟩⟩ ⟨?_, P.2.2.2.1.2⟩ hnv.1 ⟨hT1, rfl, rfl⟩ ?_ ?_ ?_)
  · rw [D2 Q]
    refine c_rdW (by decide) (by decide) (by decide) ((c_143o F1 i1 i3).trans (c_wk13.trans ?_))
    have e4 := e3 t5 v1
    unfold cf_143_265 cf_143_271 cf_143_296
    rw [e4]
    rfl
  · rw [r_op11 y3 y7]
    unfold mf_313_202 mf_313_207
    rw [h317]
    rfl
  · show (k + 1) % 2 = 1
    omega
  · refine ⟨by show (6 : Nat) ≤ 8; omega, fun q => (by rcases q with q | q <;> cases q), fun q => (by cases q), fun q => (by cases q), fun _ => ⟨rs, y, rfl, ?_, w3, ?_⟩, fun q => (by cases q)⟩
    · show rs.length = (k + 1) / 2
      omega
    · show (k + 1 + 1) / 2 ≤ szN y
      omega
  · rw [E6]
    exact hgK
  · rw [crL_c, crL_c]
    show 1 + 4 + (3 + crL Iq) + (k / 2 + pvI Iq) ≤ 3 + crL Iq + 20 + ((k + 1) / 2 + pvI Iq)
    omega
  · rw [n5I_c, n5I_c]
    exact Nat.le_refl _
end NXE
