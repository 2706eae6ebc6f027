/-! ===== PURE: run (97): instructions: steps, jumps, what is dropped ===== -/
section IN2
variable {N : Nat} {X : Nat → Option zz_C} {t0 t t1 t2 : cS} {s0 s s' s1 s2 : mS} {u w f f' p h fu m m' d d' n k b z : Nat} {code : List Ins} {Fs : List Fn} {T T' : Ty} {out out' : List Int32} {F G : List Fm} {sh sh' S0 : Nat → Option Nod} {vs vs' : List (Option Nod)} {I I' J : List It} {q r pl kk v : Int32} {it : It} {x : Nod} {l : List Nod} {c : Ins} {L L' : List Nat} {g : Fn} {a a' : Fm}
theorem CX.re (C : CX t0 t p code Fs fu S0 u w (a :: G) sh T out) (h1 : cStk (a' :: G) = cStk (a :: G)) (h2 : tStk (a' :: G) = tStk (a :: G)) : CX t0 t p code Fs fu S0 u w (a' :: G) sh T out := by
  obtain ⟨c1, ⟨e1, e2, e3, e4, e5, e6, e7, e8⟩, c3, c4⟩ := C
  refine ⟨c1, ⟨by rw [h1]; exact e1, e2, by rw [h2]; exact e3, e4, by rw [h2]; exact e5, e6, e7, by rw [h2]; exact e8⟩, c3, by rw [h1]; exact c4⟩
theorem RXm.re (R : RXm s0 s h code Fs fu f (a :: G) sh T out) (h1 : rStk (a' :: G) = rStk (a :: G)) (h2 : wStk (a' :: G) = wStk (a :: G)) (hv : a'.2.2.1 = a.2.2.1) : RXm s0 s h code Fs fu f (a' :: G) sh T out := by
  obtain ⟨r1, r2, r3⟩ := R
  exact ⟨r1, RM0.mv r2 (fun _ _ => rfl) rfl rfl (Nat.le_refl _) (fun _ _ => rfl) r2.2.2.2.2.2.2.2 (by rw [h1]; exact r2.1) hv h2, by rw [h1]; exact r3⟩
/-- what lies nowhere -/
theorem iC_no (h : it.1 = 4 ∨ it.1 = 5) : iC it = [] ∧ iR it = [] := by
  unfold iC iR
  rw [if_neg (by omega), if_neg (by omega), if_neg (by omega), if_neg (by omega), if_neg (by omega)]
  exact ⟨rfl, rfl⟩
theorem CX.no (C : CX t0 t p code Fs fu S0 u w ((m, d, vs, it :: I) :: G) sh T out) (h : it.1 = 4 ∨ it.1 = 5) : CX t0 t p code Fs fu S0 u w ((m', d', vs, I) :: G) sh T out := C.re (by rw [cStk_cons (m := m) (d := d) (m' := m') (d' := d'), (iC_no h).1]; rfl) (tStk_cons (by omega)).symm
theorem RXm.no (R : RXm s0 s h code Fs fu f ((m, d, vs, it :: I) :: G) sh T out) (hh : it.1 = 4 ∨ it.1 = 5) : RXm s0 s h code Fs fu f ((m', d', vs, I) :: G) sh T out := R.re (by rw [rStk_cons (m := m) (d := d) (m' := m') (d' := d'), (iC_no hh).2]; rfl) (wStk_cons (by omega)).symm rfl
theorem CX.yes (C : CX t0 t p code Fs fu S0 u w ((m, d, vs, I) :: G) sh T out) (h : it.1 = 4 ∨ it.1 = 5) : CX t0 t p code Fs fu S0 u w ((m', d', vs, it :: I) :: G) sh T out := C.re (by rw [cStk_cons (m' := m) (d' := d), (iC_no h).1]; rfl) (tStk_cons (by omega))
theorem RXm.yes (R : RXm s0 s h code Fs fu f ((m, d, vs, I) :: G) sh T out) (hh : it.1 = 4 ∨ it.1 = 5) : RXm s0 s h code Fs fu f ((m', d', vs, it :: I) :: G) sh T out := R.re (by rw [rStk_cons (m' := m) (d' := d), (iC_no hh).2]; rfl) (wStk_cons (by omega)) rfl
theorem kdC {y : Nat} (h : kd I = y :: L) : ∃ a I', I = a :: I' ∧ a.1 = y ∧ kd I' = L := by
  cases I with
  | nil => cases h
  | cons a I' =>
    simp only [kd, List.map_cons, List.cons.injEq] at h
    exact ⟨a, I', rfl, h.1, h.2⟩
/-- a value on top -/
theorem kdV0 (h : kd I = 0 :: L) (ho : okIs code b z I) : ∃ x j I', I = (0, [x], j) :: I' ∧ kd I' = L ∧ okIs code b z I' := by
  obtain ⟨a, I', e, h1, h2⟩ := kdC h
  subst e
  obtain ⟨x, hx⟩ := ho.1.2.1 (Or.inl h1)
  obtain ⟨a1, a2, a3⟩ := a
  have h1 : a1 = 0 := h1
  have hx : a2 = [x] := hx
  subst h1 hx
  exact ⟨x, a3, I', rfl, h2, ho.2⟩
theorem plI.tl (h : plI (it :: I)) : plI I := fun y hy => h y (List.mem_cons_of_mem _ hy)
theorem gdS.app {l l' : List (Option Nod)} (h : gdS (l ++ l')) : gdS l' := fun x hx => h x (List.mem_append_right _ hx)
/-- to another place of the function -/
theorem CK.to (K : CK code Fs fu ((m, d, vs, I) :: G) sh T out n) (P : PL code Fs m vs I g) (hb : g.2.2.2.2.1 ≤ m' ∧ m' < g.2.2.2.2.2) (hl : lyo (code.take m') = some (kd I')) (hp : plI I') (ho : okIs code g.2.2.2.2.1 g.2.2.2.2.2 I') (hv : vs'.length = vs.length) (hg : gdS (cStk ((m', 0, vs', I') :: G))) (hs : ∀ i, i < 8 → ∀ x, sh' i = some x → wfN x ∧ x.1 ≤ 4) (hT : okTy fu T') (hpot : k + crL I' + 20 * T.1 + 60 * T.2.1 + pvI I ≤ crL I + 20 * T'.1 + 60 * T'.2.1 + pvI I') (h5 : out'.length + 9100 * n5I I' + 9100 * T.1 ≤ out.length + 9100 * n5I I + 9100 * T'.1) : CK code Fs fu ((m', 0, vs', I') :: G) sh' T' out' (n + k) := K.nx hT ⟨kd I', hl, Or.inl ⟨rfl, rfl, hp⟩⟩ ⟨g, P.1, hb.1, hb.2, by show vs'.length = _; rw [hv]; exact P.2.2.1.1, ho⟩ hg hs hpot h5
theorem gd_suf (h : gdS (cStk ((m, d, vs, J ++ I) :: G))) : gdS (cStk ((m', d', vs, I) :: G)) := by
  rw [cStk_app (m' := m') (d' := d')] at h
  exact h.app
/-- where a jump goes -/
theorem PL.jmp (P : PL code Fs m vs I g) (hl : lyo (code.take m) = some (kd I)) (hj : ¬ noJ (inA code m)) : (g.2.2.2.2.1 ≤ (inA code m).2.1 ∧ (inA code m).2.1 < g.2.2.2.2.2) ∧ ∃ L', lyo (code.take (inA code m).2.1) = some L' ∧ jl (inA code m) (kd I) L' := by
  obtain ⟨g1, ⟨g2, g3, g4⟩, ⟨g5, g6⟩, g7, g8, g9, g10⟩ := P
  rcases g10 m g2 g3 with z | ⟨z1, z2, z3, L, L', z4, z5, z6⟩
  · exact absurd z hj
  · rw [hl] at z4
    cases Option.some.inj z4
    exact ⟨⟨z1, z2⟩, L', z5, z6⟩
theorem tgC_e {j : Nat} (h : j < 20000) : tgC code j 0 = Int32.ofNat (posC code j) := by
  unfold tgC
  rw [if_neg (by show ¬ j = 99999; omega)]
  rfl
theorem tgR_e {j : Nat} (h : j < 20000) : tgR d code j 0 = Int32.ofNat (ob0 d + posR code j) := by
  unfold tgR
  rw [if_neg (by show ¬ j = 99999; omega)]
  rfl
theorem code_len (h : lyo code = some []) (hx : cx code < 6500) : code.length < 20000 := by
  have := len_cx code [] [] h
  have h0 : nF [] = 0 := rfl
  omega
/-- a step: 15, 16 -/
theorem i_15 (C : CS t0 t p code Fs fu S0 ((m, 0, vs, I) :: G) sh T out) (R : RSm s0 s h code Fs fu ((m, 0, vs, I) :: G) sh T out) (K : CK code Fs fu ((m, 0, vs, I) :: G) sh T out n) (ho : (inA code m).1 = 15 ∨ (inA code m).1 = 16) : GO N X t0 s0 p h code Fs fu S0 t s n := by
  obtain ⟨u, w, f, g, C1, C2, C4, R1, R2, R4, P, hm, hcx, hrl, hG, ⟨b1, b2, b6⟩, hT, hol⟩ := open0 C R K
  have ec : cI code (posC code m) (inA code m) = [(26, 0, (inA code m).2.2.2.2.1)] := by
    rcases ho with z | z
    · exact (cI_15 (e := h) z).1
    · exact (cI_16 (e := h) z).1
  have er : ∃ o : Nat, (o = 16 ∨ o = 1) ∧ rI h code (inA code m) = [(Int32.ofNat o, 0, 0, 0, (inA code m).2.2.2.2.1)] := by
    rcases ho with z | z
    · exact ⟨16, Or.inl rfl, (cI_15 (own := 0) z).2⟩
    · exact ⟨1, Or.inr rfl, (cI_16 (own := 0) z).2⟩
  obtain ⟨o, ho2, er⟩ := er
  generalize (inA code m).2.2.2.2.1 = pl at *
  obtain ⟨D1, D2⟩ := C1.fet (N := N) (X := X) (n := n) (l1 := []) rfl C4 hm ec hcx (by omega)
  obtain ⟨s1, kx, y1, y2, y3, y4, y5, y6, ⟨y7, y8, y9, y10⟩, y11, y12⟩ := R1.fet (N := N) (l1 := []) hG rfl R4 hm er hrl
  have hop : ∀ s2, mf_302 N s1 = some (s2, none) → mf_313 N (Int32.ofNat kx) s1 = some (s2, none) := fun s2 e => by
    have : mf_313 N (Int32.ofNat kx) s1 = mf_313_116 N s1 := by
      rcases ho2 with z | z
      · exact r_op16 y3 (by rw [y7, z])
      · exact r_op1 y3 (by rw [y7, z])
    rw [this]
    unfold mf_313_116 mf_313_120
    rw [e]
    rfl
  by_cases hs : T.1 < fu
  · have hst := c_step (N := N) (X := X) (t := jI t 49 17 (Int32.ofNat (posC code m + 0 + 1))) (q := pl) D1.1.2.1.1 D1.1.2.1.2.1 hT.1 hs
    have e2 := hop _ (r_step y4 hT.1 hs)
    have CY := (D1.st).yes (m' := m + 1) (d' := 0) (it := (5, [], 0)) (Or.inr rfl)
    have RY := (y4.st).yes (m' := m + 1) (d' := 0) (it := (5, [], 0)) (Or.inr rfl)
    refine goOn (k := 1) (j := 1) (by omega) (fun Q => ?_) (fun Q x2 => y11 _ e2 y4.1.2.2.1.1 Q x2) CY C2 ?_ RY R2 ?_ ?_
    · rw [D2 Q]
      exact c_rdSM (by decide) (by decide) (by decide) hst (c_mv26.trans rfl)
    · show Int32.ofNat (posC code m + 0 + 1) = Int32.ofNat (posC code (m + 1) + 0)
      rw [posC_s hm, show clen (inA code m) = 1 by unfold clen; rcases ho with z | z <;> rw [z] <;> rfl]
    · show s1.1 69 = _
      rw [y5, y1]
      show Int32.ofNat (ob0 h + posR code m + 0 + 1) = Int32.ofNat (ob0 h + posR code (m + 1) + 0)
      rw [posR_s hm, show rlen (inA code m) = 1 by unfold rlen; rcases ho with z | z <;> rw [z] <;> rfl]
      rfl
    · obtain ⟨hl, hp⟩ := K.ly0
      obtain ⟨L', e3, e4⟩ := K.nxt
      have hpv : L' = 5 :: kd I ∧ pvI I = 0 := by
        generalize inA code m = c at *
        obtain ⟨o', jj, rr, aa, pp, xx, yy⟩ := c
        rcases ho with z | z
        · have z : o' = 15 := z
          subst z
          have e3 : (match (generalizing := false) kd I with | 5 :: M => some (5 :: 5 :: M) | _ => none) = some L' := e3
          split at e3
          · rename_i M hM
            obtain ⟨a, I', q1, q2, q3⟩ := kdC hM
            refine ⟨by rw [hM]; exact (Option.some.inj e3).symm, ?_⟩
            rw [q1]
            show (if _ then _ else if _ then _ else if _ then _ else _) = _
            rw [if_neg (by omega), if_neg (by omega), if_neg (by omega)]
          · cases e3
        · have z : o' = 16 := z
          subst z
          have e3 : (match (generalizing := false) kd I with | 0 :: _ => none | 1 :: _ => none | _ => some (5 :: kd I)) = some L' := e3
          split at e3
          · cases e3
          · cases e3
          · rename_i n1 n2
            refine ⟨(Option.some.inj e3).symm, ?_⟩
            cases I with
            | nil => rfl
            | cons a I' =>
              have h5 := hp a List.mem_cons_self
              have h0 : ¬ a.1 = 0 := fun q => n1 (kd I') (by show a.1 :: kd I' = _; rw [q])
              have h1 : ¬ a.1 = 1 := fun q => n2 (kd I') (by show a.1 :: kd I' = _; rw [q])
              show (if _ then _ else if _ then _ else if _ then _ else _) = _
              rw [if_neg (by omega), if_neg (by omega), if_neg (by omega)]
      refine K.to P (by have := P.2.1; have := P.2.2.2.2.2.1 (by omega); omega) (I' := (5, [], 0) :: I) (by rw [e4, hpv.1]; rfl) (fun y hy => ?_) ⟨ok5, P.2.2.2.1⟩ rfl ?_ K.2.2.2.2.1 ⟨hT.1, hs, hT.2.2⟩ ?_ ?_
      · rcases List.mem_cons.mp hy with q | q
        · rw [q]; exact Nat.le_refl 5
        · exact hp y q
      · rw [cStk_cons (m' := m) (d' := 0), (iC_no (it := (5, [], 0)) (Or.inr rfl)).1]
        exact K.2.2.2.1
      · rw [crL_c, hpv.2]
        show 1 + (8 + crL I) + 20 * T.1 + 60 * T.2.1 + 0 ≤ crL I + 20 * (T.1 + 1) + 60 * T.2.1 + 0
        omega
      · rw [n5I_c]
        show out.length + 9100 * (1 + n5I I) + 9100 * T.1 ≤ out.length + 9100 * n5I I + 9100 * (T.1 + 1)
        omega
  · obtain ⟨e1, e2, e3⟩ := r_nost (N := N) y4 hT.1 hs hT.2.1
    rw [y6] at e1 e2 e3
    exact nofuel (l1 := 0) (j0 := 0) C1 D2 (by decide) hT hs e2 e3 (y12 _ 10 (hop _ e1) rfl (by omega)) hol hG
end IN2
