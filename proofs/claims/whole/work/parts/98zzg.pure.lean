/-! ===== PURE: run (136): each ends, both; the next of a walk ===== -/
section EEB
variable {N : Nat} {X : Nat → Option zz_C} {t0 t t' t1 t2 : cS} {s0 s s1 s2 : mS} {u w f p h fu m m' d d' n k b j : Nat} {code : List Ins} {Fs : List Fn} {T T1 : Ty} {out : List Int32} {G F : List Fm} {sh S0 : Nat → Option Nod} {vs : List (Option Nod)} {I J I' Iq : List It} {q z pl fz : Int32} {x y c : Nod} {g : Fn} {L : List Nat} {rs xs : List Nod} {r : Ans} {v : Int64}
theorem RM0.eachP (M : RM0 s f h code ((m, d, vs, (6, rs ++ [y], k) :: I) :: G) sh) : RM0 (mI s 79 (Int32.ofNat (wStk ((m', d', vs, I) :: G)).length)) f h code ((m', d', vs, I) :: G) sh := by
  obtain ⟨e1, e2, e3, e4, e5, e6, e7, e8⟩ := M
  have eR := rStk_cons (m := m) (d := d) (m' := m') (d' := d') (vs := vs) (it := (6, rs ++ [y], k)) (I := I) (F := G)
  have eW := wStk_w (m := m) (d := d) (m' := m') (d' := d') (vs := vs) (I := I) (G := G) (it := (6, rs ++ [y], k)) (Or.inr (Or.inr (Or.inl rfl)))
  rw [eR] at e1
  rw [eW] at e3
  have e9 : rFr s f h code ((m', d', vs, I) :: G) := rFr.hd (a := (m, d, vs, (6, rs ++ [y], k) :: I)) rfl e2
  exact ⟨e1.app, rFr.up (s := s) (s' := mI s 79 (Int32.ofNat (wStk ((m', d', vs, I) :: G)).length)) (fun _ _ _ => rfl) (Nat.le_refl _) (fun _ _ => rfl) e9, e3.2, e4, e5, e6, rfl, e8⟩
theorem okAn_E : okAn (ansE y xs) := by
  unfold ansE
  exact okAn_i okAn_M (okAn_i okAn_M okAn_L)
theorem ct_L (e : ansL xs = .inr x) : xs.length ≤ ctV (vw x) := by
  unfold ansL at e
  split at e
  · rename_i c
    exact ct_M (k := 1) (Or.inl ⟨rfl, fun x hx => by rw [kd_kn, aK_i.mp c x hx]; rfl⟩) e
  · split at e
    · rename_i c
      exact ct_M (k := 2) (Or.inr (Or.inl ⟨rfl, fun x hx => by rw [kd_kn, aK_i.mp c x hx]; rfl⟩)) e
    · cases e
theorem ct_E (e : ansE y xs = .inr x) : xs.length ≤ ctV (vw x) := by
  unfold ansE at e
  split at e
  · exact ct_M (k := 3) (Or.inr (Or.inr rfl)) e
  · split at e
    · rename_i c
      rw [c]
      exact Nat.zero_le _
    · exact ct_L e
theorem n_eachE (hN : 170000 ≤ N) (C : CS t0 t p code Fs fu S0 ((m, 1, vs, (6, rs ++ [y], k) :: Iq) :: G) sh T out) (R : RSm s0 s h code Fs fu ((m, 1, vs, (6, rs ++ [y], k) :: Iq) :: G) sh T out) (K : CK code Fs fu ((m, 1, vs, (6, rs ++ [y], k) :: Iq) :: G) sh T out n) (ho : (inA code m).1 = 10) (hr : (inA code m).2.2.1 = 1) (hL : lyo (code.take m) = some L) (hk1 : pop0 1 L = some (kd Iq)) (hk2 : k % 2 = 0) (hpl : plI Iq) (hi : ¬ k / 2 < szN y) : GO N X t0 s0 p h code Fs fu S0 t s n := by
  obtain ⟨u, w, f, g, C1, C2, C4, R1, R2, R4, P, hm, hcx, hrl, hG, ⟨b1, b2, b6⟩, hT, hol⟩ := open0 C R K
  obtain ⟨ec, er⟩ := cI_10 (code := code) (own := posC code m) (e := h) ho
  have hbd := K.bd
  have h30 := hT.2.2.1
  obtain ⟨rs', y', w1, w2, w3, w4⟩ := P.2.2.2.1.1.2.2.2.2.1 rfl
  have w1 : rs ++ [y] = rs' ++ [y'] := w1
  obtain ⟨ea, eb⟩ := List.append_inj' w1 rfl
  have eb : y = y' := by simpa using eb
  subst ea eb
  have w2 : rs.length = k / 2 := w2
  have w4 : (k + 1) / 2 ≤ szN y := w4
  have hgK := K.2.2.2.1
  have gd : ∀ x ∈ rs ++ [y], wfN x ∧ x.1 ≤ 4 := by
    intro x hx
    refine hgK x ?_
    rw [cStk_6 (m' := m) (d' := 0)]
    exact List.mem_cons_of_mem _ (List.mem_append_left _ (List.mem_map.mpr ⟨x, hx, rfl⟩))
  have wy := gd y (List.mem_append_right _ List.mem_cons_self)
  have grs : ∀ x ∈ rs, wfN x ∧ x.1 ≤ 4 := fun x hx => gd x (List.mem_append_left _ hx)
  have s64 := wf64 wy.1
  rw [if_pos hr, if_pos hr] at ec
  obtain ⟨L2', x1, x2⟩ := nxF K.1.1 hm hL
  have x3 : L2' = 0 :: kd Iq := by
    generalize inA code m = cc at *
    obtain ⟨o', jj, r0, aa, pp, xx, yy⟩ := cc
    have z : o' = 10 := ho
    have z2 : r0 = 1 := hr
    subst z z2
    have x1 : (if 1 ≤ 2 then (pop0 1 L).map (0 :: ·) else none) = some L2' := x1
    rw [if_pos (by omega), hk1] at x1
    exact (Option.some.inj x1).symm
  rw [x3] at x2
  generalize (inA code m).2.2.2.2.1 = pl at *
  obtain ⟨D1, D2⟩ := C1.fet (N := N) (X := X) (n := n) (l1 := [((25 : Int32), (0 : Int32), pl)]) (dd := 1) rfl C4 hm ec hcx (by omega)
  obtain ⟨s1, kx, y1, y2, y3, y4, y5, y6, ⟨y7, y8, y9, y10⟩, y11, y12⟩ := R1.fet (N := N) (l1 := [((10 : Int32), Int32.ofNat (27 + (inA code m).2.2.1), (0 : Int32), (0 : Int32), pl)]) (dd := 1) hG rfl R4 hm er hrl
  obtain ⟨F1, F2⟩ := D1.forget (N := N) (X := X)
  obtain ⟨va, i1, i2⟩ := F2.top1 (N := N) (X := X) (cStk_6 (m' := m) (d' := 0))
  obtain ⟨vb, i3⟩ := F2.peekA (N := N) (X := X) (by omega)
  obtain ⟨tA, tB, v, e1, e2, e3, e4⟩ := F2.eachE (N := N) (X := X) (fz := fa (inA code m).2.1) (pl := pl) hN b2 w2 w3 (by omega) s64 grs (by omega)
  have e2 : kI tA 49 17 = Int32.ofNat (posC code m + 1 + 1) + 1 := e2
  have pc1 : kI tA 49 17 = Int32.ofNat (posC code (m + 1)) := by
    rw [e2, show (1 : Int32) = Int32.ofNat 1 from rfl, i32add, posC_s hm, show clen (inA code m) = 3 by unfold clen; rw [ho]; rfl]
  have eW := wStk_w (m := m) (d := 1) (m' := m) (d' := 0) (vs := vs) (I := Iq) (G := G) (it := (6, rs ++ [y], k)) (Or.inr (Or.inr (Or.inl rfl)))
  have h79 := y4.2.1.2.2.2.2.2.2.1
  have hv := y4.2.1.2.2.1
  rw [eW] at hv
  obtain ⟨v1, v2, v5, v4⟩ := hv.1.2.2 (Or.inl rfl)
  obtain ⟨a, v6, La, v7⟩ := v4 rs y rfl
  have v1 : s1.2.2.1 80 (wStk ((m, 0, vs, Iq) :: G)).length = Int32.ofNat 3 := v1
  have v8 : s1.2.2.1 82 (wStk ((m, 0, vs, Iq) :: G)).length = Int32.ofNat ((k + 1) / 2) := v2
  have v7 : s1.2.2.1 83 (wStk ((m, 0, vs, Iq) :: G)).length = Int32.ofNat (szN y) := v7
  have v6 : s1.2.2.1 81 (wStk ((m, 0, vs, Iq) :: G)).length = Int32.ofNat a := v6
  have v5 : s1.2.2.1 84 (wStk ((m, 0, vs, Iq) :: G)).length = Int32.ofNat (rStk ((m, 0, vs, Iq) :: G)).length := v5 rfl
  have hwl := hbd.2.2.1
  rw [eW, List.length_cons] at h79 hwl
  have eJ : rIt [((6, rs ++ [y], k) : It)] = rs.reverse.reverse := by
    show (rs ++ [y]).dropLast ++ [] = _
    rw [List.dropLast_concat, List.append_nil, List.reverse_reverse]
  have A1 : rA s1 (rStk ((m, 0, vs, Iq) :: G)).length f T.2.1 rs.reverse := (RXm.rA (m' := m) (d' := 0) (J := [((6, rs ++ [y], k) : It)]) (I' := Iq) (xs := rs.reverse) y4 eJ hT R2 b1 (fun x hx => grs x (List.mem_reverse.mp hx))).1
  have M1 := y4.2.1.eachP (m' := m) (d' := 0)
  have B1 : RB s0 (mI s1 79 (Int32.ofNat (wStk ((m, 0, vs, Iq) :: G)).length)) h code Fs fu T out := y4.1.I (by omega)
  have A2 : rA (mI s1 79 (Int32.ofNat (wStk ((m, 0, vs, Iq) :: G)).length)) (rStk ((m, 0, vs, Iq) :: G)).length f T.2.1 rs.reverse := A1
  obtain ⟨s2, r1, r2⟩ := r_eachE (N := N) (y := y) (nw := (wStk ((m, 0, vs, Iq) :: G)).length) (a := a) hN A2 (by rw [List.length_reverse]; omega) (by omega) v5 v6 La (by omega) w3
  have h317 : mf_317 N (Int32.ofNat kx) s1 = some (s2, none) := by
    clear hv v4 v2 eW A1 A2 M1 B1 r2 La y4 R1
    generalize (wStk ((m, 0, vs, Iq) :: G)).length = nw at *
    have sb : Int32.ofNat (nw + 1) - Int32.ofNat 1 = Int32.ofNat nw := by rw [← Int32.ofNat_sub _ _ (by omega)]; rfl
    have hle : szN y ≤ (k + 1) / 2 := by omega
    generalize (k + 1) / 2 = kh at *
    generalize szN y = sy at *
    unfold mf_317 mf_317_0 mf_317_107
    simp (disch := omega) only [ev_S, ev_P, ↓reduceIte, Nat.reduceEqDiff, Nat.reduceLeDiff, Nat.reduceAdd, Nat.reduceMul, Nat.reduceSub, reduceCtorEq, l32_0, l32_1, l32_2, l32_3, l32_4, l32_5, l32_6, l32_7, l32_8, l32_9, l32_10, l32_11, l32_12, l32_13, l32_14, l32_15, l32_16, l32_17, l32_18, l32_19, l32_20, l32_21, l32_22, l32_23, l32_24, l32_25, l32_26, l32_27, l32_28, l32_29, l32_33, l32_40, l32_41, l32_44, l32_45, l32_59, l32_61, l32_91, l32_93, l32_123, l32_125, h79, sb, v8, v7, hle, v1, r1]
  have h313 : mf_313 N (Int32.ofNat kx) s1 = some (s2, none) := by
    rw [r_op11 y3 y7]
    unfold mf_313_202 mf_313_207
    rw [h317]
    rfl
  refine vop (JK := [((6, rs ++ [y], k) : It)]) (J := vIt (rs ++ [y])) (I' := Iq) (k0 := 1) (jn := k / 2 + 1) (T1 := T) (d' := 0) (s1 := mI s1 79 (Int32.ofNat (wStk ((m, 0, vs, Iq) :: G)).length)) (pl := pl) hN (by omega) K P ?_ (by omega) (fun y hy => by rw [vIt_0 y hy]; decide) (by rw [vIt_c, List.length_map, List.length_append, List.length_singleton, w2]) ⟨hT, Nat.le_refl _, rfl⟩ x2 hpl P.2.2.2.1.2 e1 C2 e3 pc1 (fun t3 h3 Q => ?_) B1 M1 R2 y6 ?_ r2 okAn_E (fun h66 Q x2 => y11 s2 h313 h66 Q x2) (fun kq h66 hq Q x2 => y12 s2 kq h313 h66 hq Q x2) (fun x ex => ?_) hol
  · rw [cStk_app (m' := m) (d' := 0), vIt_c]
    rw [cStk_6 (m' := m) (d' := 0), List.length_cons] at b2
    omega
  · rw [D2 Q]
    refine c_rdW (by decide) (by decide) (by decide) ((c_143o F1 i1 i3).trans (c_wk13.trans ?_))
    have e5 := e4 t3 h3
    unfold cf_143_265 cf_143_271 cf_143_296
    rw [e5]
    rfl
  · show s1.1 69 = _
    rw [y5, y1, posR_s hm, show rlen (inA code m) = 2 by unfold rlen; rw [ho]; rfl]
    rfl
  · have := ct_E ex
    rw [List.length_reverse] at this
    show 1 + 20 * T.1 + (k / 2 + pvI Iq) ≤ crL [((6, rs ++ [y], k) : It)] + 20 * T.1 + 60 * ctV (vw x) + 1 + pvI Iq
    omega
/-- the next of a walk -/
theorem i_10n (hN : 170000 ≤ N) (C : CS t0 t p code Fs fu S0 ((m, 1, vs, I) :: G) sh T out) (R : RSm s0 s h code Fs fu ((m, 1, vs, I) :: G) sh T out) (K : CK code Fs fu ((m, 1, vs, I) :: G) sh T out n) : GO N X t0 s0 p h code Fs fu S0 t s n := by
  obtain ⟨g, P⟩ := K.pl0
  obtain ⟨a', G', eF, ⟨L, hL, hty⟩, -, -⟩ := K.2.2.1
  have eF := List.cons.inj eF
  obtain ⟨rfl, rfl⟩ := eF
  have hGl : G.length ≤ 9 := by
    have := K.2.1
    rw [List.length_cons] at this
    omega
  rcases hty with ⟨q, -⟩ | ⟨-, ho, hw⟩
  · cases q
  · have hok := P.2.2.2.1
    have hT := K.1.2
    rcases hw with ⟨hr, a, Iq, e, ha, ⟨hk1, hk2⟩, hpl⟩ | ⟨hr, a, y0, Iq, e, ha, hy, ⟨hk1, hk2⟩, hpl⟩
    · have e : I = a :: Iq := e
      subst e
      obtain ⟨a1, al, ak⟩ := a
      have ha : a1 = 6 := ha
      subst ha
      obtain ⟨rs, y, w1, -⟩ := hok.1.2.2.2.2.1 rfl
      have w1 : al = rs ++ [y] := w1
      subst w1
      have hk2 : ak % 2 = 0 := hk2
      by_cases hi : ak / 2 < szN y
      · by_cases hs : T.1 < fu
        · by_cases hG8 : G.length ≤ 8
          · exact n_each hN C R K ho hr hL hk1 hk2 hpl hi hs hG8
          · exact n_eachD hN C R K ho hr hk2 hi hs (by omega)
        · exact n_eachX hN C R K ho hr hk2 hi hs
      · exact n_eachE hN C R K ho hr hL hk1 hk2 hpl hi
    · have e : I = a :: y0 :: Iq := e
      subst e
      obtain ⟨a1, al, ak⟩ := a
      have ha : a1 = 8 := ha
      subst ha
      obtain ⟨y, w1, -⟩ := hok.1.2.2.2.2.2 rfl
      have w1 : al = [y] := w1
      subst w1
      obtain ⟨b1, bl, bk⟩ := y0
      have hy : b1 = 0 := hy
      subst hy
      obtain ⟨c, w2⟩ := hok.2.1.2.1 (Or.inl rfl)
      have w2 : bl = [c] := w2
      subst w2
      have hk2 : ak % 2 = 0 := hk2
      by_cases hi : ak / 2 < szN y
      · by_cases hs : T.1 < fu
        · by_cases hG8 : G.length ≤ 8
          · exact n_fold hN C R K ho hr hL hk1 hk2 hpl hi hs hG8
          · exact n_foldD hN C R K ho hr hk2 hi hs (by omega)
        · exact n_foldX hN C R K ho hr hk2 hi hs
      · exact n_foldE hN C R K ho hr hL hk1 hk2 hpl hi
end EEB
