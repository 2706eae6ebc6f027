/-! ===== PURE: run (130): no fuel at a walk's next: both ===== -/
section NXY
variable {N : Nat} {X : Nat → Option zz_C} {t0 t t1 t2 t3 : cS} {s0 s s1 s2 : mS} {u w f p h fu m m' d d' n k b j e kx : Nat} {code : List Ins} {Fs : List Fn} {T T1 : Ty} {out : List Int32} {G F : List Fm} {sh S0 : Nat → Option Nod} {vs : List (Option Nod)} {I J I' Iq : List It} {q z pl fz : Int32} {x y c : Nod} {rs : List Nod} {g : Fn} {L : List Nat}
theorem n_eachX (hN : 170000 ≤ N) (C : CS t0 t p code Fs fu S0 ((m, 1, vs, (6, rs ++ [y], k) :: Iq) :: G) sh T out) (R : RSm s0 s h code Fs fu ((m, 1, vs, (6, rs ++ [y], k) :: Iq) :: G) sh T out) (K : CK code Fs fu ((m, 1, vs, (6, rs ++ [y], k) :: Iq) :: G) sh T out n) (ho : (inA code m).1 = 10) (hr : (inA code m).2.2.1 = 1) (hk2 : k % 2 = 0) (hi : k / 2 < szN y) (hs : ¬ T.1 < fu) : GO N X t0 s0 p h code Fs fu S0 t s n := by
  obtain ⟨u, w, f, g, C1, C2, C4, R1, R2, R4, P, hm, hcx, hrl, hG, ⟨b1, b2, b6⟩, hT, hol⟩ := open0 C R K
  obtain ⟨ec, er⟩ := cI_10 (code := code) (own := posC code m) (e := h) ho
  have hbd := K.bd
  obtain ⟨rs', y', w1, w2, w3, w4⟩ := P.2.2.2.1.1.2.2.2.2.1 rfl
  have w1 : rs ++ [y] = rs' ++ [y'] := w1
  obtain ⟨ea, eb⟩ := List.append_inj' w1 rfl
  have eb : y = y' := by simpa using eb
  subst ea eb
  have w2 : rs.length = k / 2 := w2
  have wy : wfN y ∧ y.1 ≤ 4 := by
    refine K.2.2.2.1 y ?_
    rw [cStk_6 (m' := m) (d' := 0)]
    exact List.mem_cons_of_mem _ (List.mem_append_left _ (List.mem_map.mpr ⟨y, List.mem_append_right _ List.mem_cons_self, rfl⟩))
  have s64 := wf64 wy.1
  rw [if_pos hr, if_pos hr] at ec
  generalize (inA code m).2.2.2.2.1 = pl at *
  obtain ⟨D1, D2⟩ := C1.fet (N := N) (X := X) (n := n) (l1 := [((25 : Int32), (0 : Int32), pl)]) (dd := 1) rfl C4 hm ec hcx (by omega)
  obtain ⟨s1, kx, y1, y2, y3, y4, y5, y6, ⟨y7, y8, y9, y10⟩, y11, y12⟩ := R1.fet (N := N) (l1 := [((10 : Int32), Int32.ofNat (27 + (inA code m).2.2.1), (0 : Int32), (0 : Int32), pl)]) (dd := 1) hG rfl R4 hm er hrl
  obtain ⟨F1, F2⟩ := D1.forget (N := N) (X := X)
  obtain ⟨va, i1, i2⟩ := F2.top1 (N := N) (X := X) (cStk_6 (m' := m) (d' := 0))
  obtain ⟨vb, i3⟩ := F2.peekA (N := N) (X := X) (by omega)
  obtain ⟨e1', e2', e3'⟩ := r_nost (N := N) y4 hT.1 hs hT.2.1
  rw [y6] at e1' e2' e3'
  have h317 : mf_317 N (Int32.ofNat kx) s1 = some (trb s1 (Int32.ofNat 10) pl, none) := r_nextX (N := N) y4 (Or.inl rfl) hk2 hbd.2.2.1 hi s64 e1' rfl
  refine trob0 (kq := 10) (k0 := 1) (ra := Int32.ofNat 0) (by omega) (by omega) (by omega) K hT ⟨Nat.le_refl _, Nat.le_refl _⟩ F2 (Nat.le_trans C2 (Nat.le_add_right _ _)) e2' e3' ⟨R2.1, Nat.le_trans R2.2 (Nat.le_add_right _ _)⟩ rfl (fun t3 ht Q => ?_) (y12 _ 10 ?_ rfl (by omega)) b6
  · rw [D2 Q]
    refine c_rdW (by decide) (by decide) (by decide) ((c_143o F1 i1 i3).trans (c_wk13.trans ?_))
    have e4 := F2.eachX (N := N) (X := X) (fz := fa (inA code m).2.1) w2 hi s64 (c_stepX F2 hT.1 hT.2.1 hs ht)
    unfold cf_143_265 cf_143_271 cf_143_296
    rw [e4]
    rfl
  · rw [r_op11 y3 y7]
    unfold mf_313_202 mf_313_207
    rw [h317]
    rfl
theorem n_foldX (hN : 170000 ≤ N) (C : CS t0 t p code Fs fu S0 ((m, 1, vs, (8, [y], k) :: Iq) :: G) sh T out) (R : RSm s0 s h code Fs fu ((m, 1, vs, (8, [y], k) :: Iq) :: G) sh T out) (K : CK code Fs fu ((m, 1, vs, (8, [y], k) :: Iq) :: G) sh T out n) (ho : (inA code m).1 = 10) (hr : (inA code m).2.2.1 = 2) (hk2 : k % 2 = 0) (hi : k / 2 < szN y) (hs : ¬ T.1 < fu) : GO N X t0 s0 p h code Fs fu S0 t s n := by
  obtain ⟨u, w, f, g, C1, C2, C4, R1, R2, R4, P, hm, hcx, hrl, hG, ⟨b1, b2, b6⟩, hT, hol⟩ := open0 C R K
  obtain ⟨ec, er⟩ := cI_10 (code := code) (own := posC code m) (e := h) ho
  have hbd := K.bd
  have wy : wfN y ∧ y.1 ≤ 4 := by
    refine K.2.2.2.1 y ?_
    rw [cStk_8 (m' := m) (d' := 0)]
    exact List.mem_cons_of_mem _ List.mem_cons_self
  have s64 := wf64 wy.1
  have n1 : ¬ (inA code m).2.2.1 = 1 := by omega
  rw [if_neg n1, if_neg n1] at ec
  generalize (inA code m).2.2.2.2.1 = pl at *
  obtain ⟨D1, D2⟩ := C1.fet (N := N) (X := X) (n := n) (l1 := [((25 : Int32), (0 : Int32), pl)]) (dd := 1) rfl C4 hm ec hcx (by omega)
  obtain ⟨s1, kx, y1, y2, y3, y4, y5, y6, ⟨y7, y8, y9, y10⟩, y11, y12⟩ := R1.fet (N := N) (l1 := [((10 : Int32), Int32.ofNat (27 + (inA code m).2.2.1), (0 : Int32), (0 : Int32), pl)]) (dd := 1) hG rfl R4 hm er hrl
  obtain ⟨F1, F2⟩ := D1.forget (N := N) (X := X)
  obtain ⟨va, i1, i2⟩ := F2.top1 (N := N) (X := X) (cStk_8 (m' := m) (d' := 0))
  obtain ⟨vb, i3⟩ := F2.peekA (N := N) (X := X) (by omega)
  obtain ⟨e1', e2', e3'⟩ := r_nost (N := N) y4 hT.1 hs hT.2.1
  rw [y6] at e1' e2' e3'
  have h317 : mf_317 N (Int32.ofNat kx) s1 = some (trb s1 (Int32.ofNat 10) pl, none) := r_nextX (N := N) (rs := []) y4 (Or.inr rfl) hk2 hbd.2.2.1 hi s64 e1' rfl
  refine trob0 (kq := 10) (k0 := 1) (ra := Int32.ofNat 0) (by omega) (by omega) (by omega) K hT ⟨Nat.le_refl _, Nat.le_refl _⟩ F2 (Nat.le_trans C2 (Nat.le_add_right _ _)) e2' e3' ⟨R2.1, Nat.le_trans R2.2 (Nat.le_add_right _ _)⟩ rfl (fun t3 ht Q => ?_) (y12 _ 10 ?_ rfl (by omega)) b6
  · rw [D2 Q]
    refine c_rdW (by decide) (by decide) (by decide) ((c_143o F1 i1 i3).trans (c_wk15.trans ?_))
    have e4 := F2.foldX (N := N) (X := X) (fz := fa (inA code m).2.1) hi s64 (c_stepX F2 hT.1 hT.2.1 hs ht)
    unfold cf_143_274 cf_143_280 cf_143_296
    rw [e4]
    rfl
  · rw [r_op11 y3 y7]
    unfold mf_313_202 mf_313_207
    rw [h317]
    rfl
end NXY
