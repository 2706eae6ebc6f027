/-! ===== PURE: run (126): fold calls ===== -/
section NXF
variable {N : Nat} {X : Nat → Option zz_C} {t0 t t1 t2 : cS} {s0 s s1 s2 : mS} {u w f p h fu m m' d d' n k b j fi : Nat} {code : List Ins} {Fs : List Fn} {T T1 : Ty} {out : List Int32} {G F : List Fm} {sh S0 : Nat → Option Nod} {vs : List (Option Nod)} {I J I' Iq : List It} {q z pl : Int32} {x y c : Nod} {rs xs : List Nod} {g : Fn} {L : List Nat}
theorem n_fold (hN : 170000 ≤ N) (C : CS t0 t p code Fs fu S0 ((m, 1, vs, (8, [y], k) :: (0, [c], j) :: Iq) :: G) sh T out) (R : RSm s0 s h code Fs fu ((m, 1, vs, (8, [y], k) :: (0, [c], j) :: Iq) :: G) sh T out) (K : CK code Fs fu ((m, 1, vs, (8, [y], k) :: (0, [c], j) :: Iq) :: G) sh T out n) (ho : (inA code m).1 = 10) (hr : (inA code m).2.2.1 = 2) (hL : lyo (code.take m) = some L) (hk1 : pop0 2 L = some (kd Iq)) (hk2 : k % 2 = 0) (hpl : plI Iq) (hi : k / 2 < szN y) (hs : T.1 < fu) (hG8 : G.length ≤ 8) : GO N X t0 s0 p h code Fs fu S0 t s n := by
  obtain ⟨u, w, f, g, C1, C2, C4, R1, R2, R4, P, hm, hcx, hrl, hG, ⟨b1, b2, b6⟩, hT, hol⟩ := open0 C R K
  obtain ⟨ec, er⟩ := cI_10 (code := code) (own := posC code m) (e := h) ho
  obtain ⟨hfi, hpar⟩ := K.1.1.2.1 m hm (Or.inr ho)
  have hfi : (inA code m).2.1 < Fs.length := hfi
  have hpar : Fs[(inA code m).2.1].2.2.1 = (inA code m).2.2.1 := hpar
  have hFO := K.1.1.1 _ (List.getElem_mem hfi)
  have hF12 : Fs.length ≤ 12 := C1.1.1.2.2.2.2.1
  have hbd := K.bd
  have h30 := hT.2.2.1
  obtain ⟨y', w1, w3, w4⟩ := P.2.2.2.1.1.2.2.2.2.2 rfl
  have w1 : [y] = [y'] := w1
  have eb : y = y' := by simpa using w1
  subst eb
  have hgK := K.2.2.2.1
  have E8 : cStk ((m, 1, vs, (8, [y], k) :: (0, [c], j) :: Iq) :: G) = some (nZ (Int32.ofNat (k / 2))) :: some y :: some c :: cStk ((m, 1, vs, Iq) :: G) := by
    rw [cStk_8 (m' := m) (d' := 1), cStk_0 (m' := m) (d' := 1)]
    rfl
  have E8' : cStk ((m, 1, vs, (8, [y], k + 1) :: (7, [c], j) :: Iq) :: G) = cStk ((m, 1, vs, (8, [y], k) :: (0, [c], j) :: Iq) :: G) := by
    rw [E8, cStk_8 (m' := m) (d' := 1), cStk_7 (m' := m) (d' := 1), show (k + 1) / 2 = k / 2 by omega]
    rfl
  have wy : wfN y ∧ y.1 ≤ 4 := by
    refine hgK y ?_
    rw [E8]
    exact List.mem_cons_of_mem _ List.mem_cons_self
  have wc : wfN c ∧ c.1 ≤ 4 := by
    refine hgK c ?_
    rw [E8]
    exact List.mem_cons_of_mem _ (List.mem_cons_of_mem _ List.mem_cons_self)
  have s64 := wf64 wy.1
  have hnv : 2 ≤ Fs[(inA code m).2.1].2.2.2.1 ∧ Fs[(inA code m).2.1].2.2.2.1 ≤ 14 := by
    have := hFO.2.2.2.2.2.2.1
    rw [hr] at hpar
    omega
  have n1 : ¬ (inA code m).2.2.1 = 1 := by omega
  rw [if_neg n1, if_neg n1, fa_e (by omega)] at ec
  rw [fr_fb (by omega)] at er
  generalize (inA code m).2.2.2.2.1 = pl at *
  have hcBk : cBk code ((m, 1, vs, (8, [y], k + 1) :: (7, [c], j) :: Iq) :: G) = posC code m + 2 := by
    show posC code m + (if (inA code m).1 = 10 then 2 else 1) = _
    rw [if_pos ho]
  generalize hfe : (inA code m).2.1 = fi at *
  obtain ⟨D1, D2⟩ := C1.fet (N := N) (X := X) (n := n) (l1 := [((25 : Int32), (0 : Int32), pl)]) (dd := 1) rfl C4 hm ec hcx (by omega)
  obtain ⟨s1, kx, y1, y2, y3, y4, y5, y6, ⟨y7, y8, y9, y10⟩, y11, y12⟩ := R1.fet (N := N) (l1 := [((10 : Int32), Int32.ofNat (27 + (inA code m).2.2.1), (0 : Int32), (0 : Int32), pl)]) (dd := 1) hG rfl R4 hm er hrl
  obtain ⟨F1, F2⟩ := D1.forget (N := N) (X := X)
  obtain ⟨va, i1, i2⟩ := F2.top1 (N := N) (X := X) E8
  obtain ⟨vb, i3⟩ := F2.peekA (N := N) (X := X) (by omega)
  obtain ⟨t4, e1, e2, e3⟩ := F2.foldA (N := N) (X := X) (fz := Int32.ofNat fi) (pl := pl) b2 w3 hi s64 hT.1 hs
  have e1' : CX t0 t4 p code Fs fu S0 u 0 ((m, 1, vs, [(0, [elN y (k / 2)], 0), (0, [c], 0)] ++ (8, [y], k + 1) :: (7, [c], j) :: Iq) :: G) sh (T.1 + 1, T.2) out := by
    refine e1.re ?_ ?_
    · show cStk ((m, 1, vs, (0, [elN y (k / 2)], 0) :: (0, [c], 0) :: (8, [y], k + 1) :: (7, [c], j) :: Iq) :: G) = _
      rw [cStk_00 (m' := m) (d' := 1), cStk_00 (m' := m) (d' := 1), E8']
    · show tStk ((m, 1, vs, (0, [elN y (k / 2)], 0) :: (0, [c], 0) :: (8, [y], k + 1) :: (7, [c], j) :: Iq) :: G) = _
      rw [tStk_0 (m' := m) (d' := 1), tStk_0 (m' := m) (d' := 1), tStk_678 (m' := m) (d' := 1) (Or.inr (Or.inr rfl)), tStk_678 (m' := m) (d' := 1) (Or.inr (Or.inl rfl)), tStk_0 (m' := m) (d' := 1), tStk_0 (m' := m) (d' := 1), tStk_678 (m' := m) (d' := 1) (Or.inr (Or.inr rfl)), tStk_0 (m' := m) (d' := 1)]
  have hJ0 : ∀ a ∈ ([(0, [elN y (k / 2)], 0), (0, [c], 0)] : List It), a.1 = 0 := fun a ha => by
    rcases List.mem_cons.mp ha with q | q
    · rw [q]
    · rw [List.mem_singleton.mp q]
  obtain ⟨t5, v1, v2, v3⟩ := e1'.enter (N := N) (X := X) (d' := 1) (fi := fi) (q := pl) (xs := [c, elN y (k / 2)]) hN rfl (fun a ha => by have := hJ0 a ha; omega) hfi hG8 (by rw [hcBk]; exact e2) (by show (cStk ((m, 1, vs, (0, [elN y (k / 2)], 0) :: (0, [c], 0) :: (8, [y], k + 1) :: (7, [c], j) :: Iq) :: G)).length ≤ _; rw [cStk_00 (m' := m) (d' := 1), E8', List.length_cons, List.length_cons]; omega) hnv hT.2.2.2.1
  have hstep := r_step (N := N) y4 hT.1 hs
  obtain ⟨s4, f1, f2, f3⟩ := RXm.nextA (N := N) (m' := m) (d' := 1) (kx := kx) (rs := []) (y4.st) rfl hstep (Or.inr rfl) hk2 y3 b1 hbd.2.2.1 w3 hi s64 (by omega) hG8
  have f1' := RXm.foldS (m' := m) (d' := 1) f1
  have hbk : rBk h code ((m, 1, vs, (8, [y], k + 1) :: (7, [c], j) :: Iq) :: G) = Int32.ofNat kx := by
    rw [y1]
    rfl
  have hrl6 : (rStk ((m, 1, vs, (0, [elN y (k / 2)], 0) :: (0, [c], 0) :: (8, [y], k + 1) :: (7, [c], j) :: Iq) :: G)).length ≤ 8800 := by
    rw [rStk_cons (m' := m) (d' := 1), rStk_cons (m := m) (d := 1) (m' := m) (d' := 1), rStk_cons (m := m) (d := 1) (m' := m) (d' := 1), rStk_cons (m := m) (d := 1) (m' := m) (d' := 1)]
    rw [rStk_cons (m' := m) (d' := 1), rStk_cons (m := m) (d := 1) (m' := m) (d' := 1)] at b1
    have b1 : ([c] ++ rStk ((m, 1, vs, Iq) :: G)).length ≤ 8700 := b1
    show ([elN y (k / 2)] ++ ([c] ++ rStk ((m, 1, vs, Iq) :: G))).length ≤ 8800
    rw [List.length_append, List.length_singleton]
    omega
  obtain ⟨s5, r1, r2, r3⟩ := RXm.enter (N := N) (d' := 1) (fi := fi) (J := [(0, [elN y (k / 2)], 0), (0, [c], 0)]) (xs := [c, elN y (k / 2)]) hN f1' rfl (wStk_v hJ0) hfi hF12 hG8 hrl6 hnv hT.2.2.2.1
  rw [hbk] at r1
  have y9' : (mI s1 60 (Int32.ofNat (T.1 + 1))).2.2.1 25 kx = Int32.ofNat (fb0 h + fi) := y9
  have h317 : mf_317 N (Int32.ofNat kx) s1 = some (s5, none) := f3 s5 (by rw [y9']; exact r1)
  have hT1 : okTy fu (T.1 + 1, T.2) := ⟨hT.1, hs, hT.2.2⟩
  have hel : wfN (elN y (k / 2)) ∧ (elN y (k / 2)).1 ≤ 4 := elN_ok wy (by unfold lim; rw [if_neg w3]; exact hi)
  refine goOn (k := 1) (j := 1) (by omega) (fun Q => ?_) (fun Q x2 => y11 s5 ?_ r2.1.2.2.1.1 Q x2) v2 C2 v3 r2 R2 r3 (K.ent2 P hG8 hfi (xs := [c, elN y (k / 2)]) (fun a ha => ?_) ⟨L, hL, Or.inr ⟨ho, Or.inr ⟨hr, _, _, Iq, rfl, rfl, rfl, ⟨hk1, ?_⟩, hpl⟩⟩⟩ ⟨?_, ?_, P.2.2.2.1.2.2⟩ hnv.1 ⟨hT1, rfl, rfl⟩ ?_ ?_ ?_)
  · rw [D2 Q]
    refine c_rdW (by decide) (by decide) (by decide) ((c_143o F1 i1 i3).trans (c_wk15.trans ?_))
    have e4 := e3 t5 v1
    unfold cf_143_274 cf_143_280 cf_143_296
    rw [e4]
    rfl
  · rw [r_op11 y3 y7]
    unfold mf_313_202 mf_313_207
    rw [h317]
    rfl
  · rcases List.mem_cons.mp ha with q | q
    · rw [q]; exact wc
    · rw [List.mem_singleton.mp q]; exact hel
  · show (k + 1) % 2 = 1
    omega
  · refine ⟨by show (8 : Nat) ≤ 8; omega, fun q => (by rcases q with q | q <;> cases q), fun q => (by cases q), fun q => (by cases q), fun q => (by cases q), fun _ => ⟨y, rfl, w3, ?_⟩⟩
    show (k + 1 + 1) / 2 ≤ szN y
    omega
  · exact ⟨by show (7 : Nat) ≤ 8; omega, fun _ => ⟨c, rfl⟩, fun q => (by cases q), fun q => (by cases q), fun q => (by cases q), fun q => (by cases q)⟩
  · rw [E8']
    exact hgK
  · rw [crL_c (I := (7, [c], j) :: Iq), crL_c (I := Iq), crL_c (I := (0, [c], j) :: Iq), crL_c (I := Iq)]
    show 1 + 4 + (3 + (0 + crL Iq)) + (1 + pvI Iq) ≤ 3 + (0 + crL Iq) + 20 + (1 + pvI Iq)
    omega
  · rw [n5I_c (I := (7, [c], j) :: Iq), n5I_c (I := Iq), n5I_c (I := (0, [c], j) :: Iq), n5I_c (I := Iq)]
    exact Nat.le_refl _
end NXF
