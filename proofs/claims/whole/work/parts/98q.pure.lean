/-! ===== PURE: run (94): an instruction's begin ===== -/
section INB
variable {N : Nat} {X : Nat → Option zz_C} {t0 t t1 t2 : cS} {s0 s s1 s2 : mS} {u w f p h fu m m' d d' n k : Nat} {code : List Ins} {Fs : List Fn} {T T' : Ty} {out out' : List Int32} {F G : List Fm} {sh sh' S0 : Nat → Option Nod} {vs vs' : List (Option Nod)} {I I' : List It} {a b : Fm} {q r pl : Int32}
/-- what is known at a place -/
def PL (code : List Ins) (Fs : List Fn) (m : Nat) (vs : List (Option Nod)) (I : List It) (g : Fn) : Prop := g ∈ Fs ∧ (g.2.2.2.2.1 ≤ m ∧ m < g.2.2.2.2.2 ∧ m < code.length) ∧ (vs.length = g.2.2.2.1 ∧ vs.length ≤ 14) ∧ okIs code g.2.2.2.2.1 g.2.2.2.2.2 I ∧ okI vs.length (inA code m) ∧ (¬ (inA code m).1 = 20 → m + 1 < g.2.2.2.2.2) ∧ FJ code g.2.2.2.2.1 g.2.2.2.2.2
theorem CK.pl0 (K : CK code Fs fu ((m, d, vs, I) :: G) sh T out n) : ∃ g, PL code Fs m vs I g := by
  obtain ⟨⟨h1, h2⟩, h3, ⟨a, G', e, t1, ⟨g, g1, g2, g3, g4, g5⟩, t3⟩, h5, h6, h7, h8⟩ := K
  cases e
  have hF := h1.1 g g1
  have g4 : vs.length = g.2.2.2.1 := g4
  have g2 : g.2.2.2.2.1 ≤ m := g2
  have g3 : m < g.2.2.2.2.2 := g3
  refine ⟨g, g1, ⟨g2, g3, by have := hF.2.1; omega⟩, ⟨g4, by rw [g4]; exact hF.2.2.2.2.2.2.1.2.1⟩, g5, by rw [g4]; exact hF.2.2.2.1 m g2 g3, fun q => ?_, hF.2.2.2.2.1⟩
  by_cases e : m = g.2.2.2.2.2 - 1
  · exact absurd (by rw [e]; exact hF.2.2.2.2.2.1) q
  · omega
theorem CK.ly0 (K : CK code Fs fu ((m, 0, vs, I) :: G) sh T out n) : lyo (code.take m) = some (kd I) ∧ plI I := by
  obtain ⟨⟨h1, h2⟩, h3, ⟨a, G', e, ⟨L, hL, ⟨-, h0, hp⟩ | ⟨h0, -⟩⟩, t2, t3⟩, h5, h6, h7, h8⟩ := K
  · cases e
    exact ⟨by rw [show kd I = L from h0]; exact hL, hp⟩
  · cases e
    cases h0
theorem CK.nxt (K : CK code Fs fu ((m, 0, vs, I) :: G) sh T out n) : ∃ L', eff (inA code m) (kd I) = some L' ∧ lyo (code.take (m + 1)) = some L' := by
  obtain ⟨g, -, ⟨-, -, hm⟩, -⟩ := K.pl0
  have hl := K.ly0.1
  obtain ⟨L', h1, -⟩ := hgt (m := m + 1) K.1.1.2.2.1 K.1.1.2.2.2.2.2
  exact ⟨L', by rw [← lyo_s hm hl]; exact h1, h1⟩
/-- the picture after it -/
theorem CK.nx (K : CK code Fs fu ((m, d, vs, I) :: G) sh T out n) (hT : okTy fu T') (ty : tyA code (m', d', vs', I')) (hi : inF code Fs (m', d', vs', I')) (hg : gdS (cStk ((m', d', vs', I') :: G))) (hs : ∀ i, i < 8 → ∀ x, sh' i = some x → wfN x ∧ x.1 ≤ 4) (hp : k + crL I' + 20 * T.1 + 60 * T.2.1 + pvI I ≤ crL I + 20 * T'.1 + 60 * T'.2.1 + pvI I') (h5 : out'.length + 9100 * n5I I' + 9100 * T.1 ≤ out.length + 9100 * n5I I + 9100 * T'.1) : CK code Fs fu ((m', d', vs', I') :: G) sh' T' out' (n + k) := by
  obtain ⟨⟨h1, h2⟩, h3, ⟨a, G', e, t1, t2, t3⟩, h6, h7, h8, h9⟩ := K
  cases e
  refine ⟨⟨h1, hT⟩, h3, ⟨_, G, rfl, ty, hi, t3⟩, hg, hs, ?_, ?_⟩
  · have h8 : n + (4 + crL I + cr G) ≤ 20 * T.1 + 60 * T.2.1 + (pvI I + pv G) + 4 := h8
    show n + k + (4 + crL I' + cr G) ≤ 20 * T'.1 + 60 * T'.2.1 + (pvI I' + pv G) + 4
    omega
  · have h9 : out.length + 9100 * (n5I I + n5 G) ≤ 9100 * T.1 := h9
    show out'.length + 9100 * (n5I I' + n5 G) ≤ 9100 * T'.1
    omega
/-- what a trouble needs -/
theorem CK.kt (K : CK code Fs fu ((m, d, vs, I) :: G) sh T out n) {J : List It} (e : I = J ++ I') (hT : okTy fu T') (hT2 : T.1 ≤ T'.1 ∧ T.2.1 ≤ T'.2.1) (hk : k ≤ 5) : CKt code Fs fu ((m, d', vs, I') :: G) sh T' out (n + k) := by
  have B := K.bd
  have K' := K
  obtain ⟨⟨h1, h2⟩, h3, ⟨a, G', e', t1, t2, t3⟩, h6, h7, h8, h9⟩ := K
  cases e'
  have hl := t1.lt3
  obtain ⟨g, g1, g2, g3, g4, g5⟩ := t2
  have hsub : ∀ {J : List It} {b z : Nat}, okIs code b z (J ++ I') → okIs code b z I' := by
    intro J
    induction J with
    | nil => intro b z q; exact q
    | cons x J ih => intro b z q; exact ih q.2
  have hl' : lt3 (m, d', vs, I') := by
    obtain ⟨A, B', e1, hB, hA⟩ := hl
    have e1 : I = A ++ B' := e1
    rw [e] at e1
    rcases List.append_eq_append_iff.mp e1 with ⟨C, c1, c2⟩ | ⟨C, c1, c2⟩
    · exact ⟨C, B', c2, hB, fun y hy => hA y (by rw [c1]; exact List.mem_append_right _ hy)⟩
    · refine ⟨[], I', rfl, fun y hy => hB y (by rw [c2]; exact List.mem_append_right _ hy), fun y hy => by cases hy⟩
  have ec : cStk ((m, d, vs, I) :: G) = cIt J ++ cStk ((m, d', vs, I') :: G) := by
    show cIt I ++ _ = _
    rw [e]
    show (J ++ I').flatMap iC ++ _ = J.flatMap iC ++ (I'.flatMap iC ++ _)
    rw [List.flatMap_append, List.append_assoc]
  have ew : (wStk ((m, d', vs, I') :: G)).length ≤ (wStk ((m, d, vs, I) :: G)).length := by
    obtain ⟨W, w1, -⟩ := wIt_app (J := J) (I := I') (b := (rStk G).length) (d := G.length + 1)
    show (wIt _ _ I' ++ _).length ≤ (wIt _ _ I ++ _).length
    rw [e, w1, List.length_append, List.length_append, List.length_append]
    omega
  have et : (tStk ((m, d', vs, I') :: G)).length ≤ (tStk ((m, d, vs, I) :: G)).length := by
    have key : ∀ {J : List It} {b d : Nat}, (tIt b d I').length ≤ (tIt b d (J ++ I')).length := by
      intro J
      induction J with
      | nil => intro b d; exact Nat.le_refl _
      | cons x J ih =>
        intro b d
        have := ih (b := b) (d := d)
        show _ ≤ (if x.1 = 3 then (x.2.2, (cIt (J ++ I')).length + b, d) :: tIt b d (J ++ I') else tIt b d (J ++ I')).length
        split
        · rw [List.length_cons]; omega
        · exact this
    show (tIt (vs.length + (cStk G).length) (G.length + 1) I' ++ tStk G).length ≤ (tIt (vs.length + (cStk G).length) (G.length + 1) I ++ tStk G).length
    rw [e, List.length_append, List.length_append]
    have := key (J := J) (b := vs.length + (cStk G).length) (d := G.length + 1)
    omega
  have e1 : crL I = crL J + crL I' := by rw [e, crL_app]
  have e2 : n5I I = n5I J + n5I I' := by rw [e, n5I_app]
  obtain ⟨b1, b2, b3, b4, b5, b6⟩ := B
  refine ⟨⟨h1, hT⟩, h3, fun b hb => ?_, fun b G' e' => by cases e'; exact t3, fun x hx => h6 x (by rw [ec]; exact List.mem_append_right _ hx), h7, ?_, ?_, by rw [ec, List.length_append] at b2; omega, by omega, by omega⟩
  · rcases List.mem_cons.mp hb with z | z
    · rw [z]
      refine ⟨hl', g, g1, g2, g3, g4, ?_⟩
      have g5 : okIs code g.2.2.2.2.1 g.2.2.2.2.2 I := g5
      rw [e] at g5
      exact hsub g5
    · exact ⟨(t3 b z).1.lt3, (t3 b z).2⟩
  · have h8 : n + (4 + crL I + cr G) ≤ 20 * T.1 + 60 * T.2.1 + pv ((m, d, vs, I) :: G) + 4 := h8
    show n + k + (4 + crL I' + cr G) ≤ 20 * T'.1 + 60 * T'.2.1 + 17500
    omega
  · have h9 : out.length + 9100 * (n5I I + n5 G) ≤ 9100 * T.1 := h9
    show out.length + 9100 * (n5I I' + n5 G) ≤ 9100 * T'.1
    omega
/-- an act is fetched -/
theorem CX.fet {ac g : Int32} {l1 l : List C3} {dd : Nat} (C : CX t0 t p code Fs fu S0 u w F sh T out) (hd : l1.length = dd) (hpc : kI t 49 17 = Int32.ofNat (posC code m + dd)) (hm : m < code.length) (hcI : cI code (posC code m) (inA code m) = l1 ++ (ac, g, q) :: l) (hcx : cx code < 6500) (hn : n < 1000000) : CX t0 (jI t 49 17 (Int32.ofNat (posC code m + dd + 1))) p code Fs fu S0 u w F sh T out ∧ ∀ Q, cf_141_L4 N X (Q + 1) 0 (Int32.ofNat n) t = if ac < Int32.ofNat 19 then cf_141_120 N X (cf_141_L4 N X Q) (Int32.ofNat n) ac g q (jI t 49 17 (Int32.ofNat (posC code m + dd + 1))) else cf_141_108 N X (cf_141_L4 N X Q) (Int32.ofNat n) ac g q (jI t 49 17 (Int32.ofNat (posC code m + dd + 1))) := by
  obtain ⟨p0, p1⟩ := CA_at hm hcI
  subst hd
  exact ⟨C.pc (Or.inl rfl), fun Q => c_fet C.1.1 hcx C.1.2.2.2.2.1 hn hpc p0 p1⟩
/-- an order is fetched -/
theorem RXm.fet {o a1 b1 c1 : Int32} {l1 l : List R5} {dd : Nat} (R : RXm s0 s h code Fs fu f (a :: G) sh T out) (hG : G.length ≤ 9) (hd : l1.length = dd) (hpc : s.1 69 = Int32.ofNat (ob0 h + posR code m + dd)) (hm : m < code.length) (hrI : rI h code (inA code m) = l1 ++ (o, a1, b1, c1, pl) :: l) (hl : rl code ≤ 1610) : ∃ s1 kk, kk = ob0 h + posR code m + dd ∧ s1 = mI (mI s 69 (Int32.ofNat (kk + 1))) 70 pl ∧ kk < 8000 ∧ RXm s0 s1 h code Fs fu f (a :: G) sh T out ∧ s1.1 69 = Int32.ofNat (kk + 1) ∧ s1.1 70 = pl ∧ (s1.2.2.1 23 kk = o ∧ s1.2.2.1 24 kk = a1 ∧ s1.2.2.1 25 kk = b1 ∧ s1.2.2.1 26 kk = c1) ∧ (∀ s2, mf_313 N (Int32.ofNat kk) s1 = some (s2, none) → s2.1 66 = Int32.ofNat 0 → ∀ Q x2, mf_68_L10 N (Q + 1) 0 x2 s = mf_68_L10 N Q 0 x2 s2) ∧ (∀ s2 kq, mf_313 N (Int32.ofNat kk) s1 = some (s2, none) → s2.1 66 = Int32.ofNat kq → 0 < kq ∧ kq < 100 → ∀ Q x2, mf_68_L10 N (Q + (0 + 1)) 0 x2 s = mo_bi (mf_312 N s2) (fun s3 y => mf_68_L10 N Q 0 x2 s3)) := by
  obtain ⟨p0, p1⟩ := RA_at hm hrI
  subst hd
  rw [Nat.add_assoc] at hpc
  obtain ⟨R1, R2, R3⟩ := R
  have h73 : s.1 73 = Int32.ofNat (G.length + 1) := R2.2.2.2.2.2.1
  have F := fun Q x2 => r_fet (N := N) (F := Q) (x2 := x2) R1.1 hl h73 hG R1.2.2.1.1 hpc p0 p1
  obtain ⟨-, f1, f2⟩ := F 0 0
  refine ⟨_, _, (Nat.add_assoc _ _ _).symm, rfl, f2, ⟨(R1.I (by omega)).I (by omega), ?_, R3⟩, rfl, rfl, f1, fun s2 e1 e2 Q x2 => ?_, fun s2 kq e1 e2 e3 Q x2 => ?_⟩
  · obtain ⟨b1, b2, b3, b4, b5, b6, b7, b8⟩ := R2
    refine ⟨b1, rFr.loc (s := s) (fun _ _ _ _ _ => rfl) (fun _ _ => ⟨rfl, rfl⟩) (Nat.le_refl _) (fun _ _ => rfl) b2, b3, b4, b5, b6, b7, b8⟩
  · rw [(F Q x2).1]
    exact r_ok e1 e2
  · rw [show Q + (0 + 1) = Q + 1 from rfl, (F Q x2).1]
    exact r_no e1 e2 e3
/-- all that is at hand before an instruction -/
theorem open0 (C : CS t0 t p code Fs fu S0 ((m, d, vs, I) :: G) sh T out) (R : RSm s0 s h code Fs fu ((m, d, vs, I) :: G) sh T out) (K : CK code Fs fu ((m, d, vs, I) :: G) sh T out n) : ∃ u w f g, CX t0 t p code Fs fu S0 u w ((m, d, vs, I) :: G) sh T out ∧ u ≤ 100000 + 20 * T.2.1 ∧ kI t 49 17 = Int32.ofNat (posC code m + d) ∧ RXm s0 s h code Fs fu f ((m, d, vs, I) :: G) sh T out ∧ (154242 ≤ f ∧ f ≤ 154250 + T.2.1) ∧ s.1 69 = Int32.ofNat (ob0 h + posR code m + d) ∧ PL code Fs m vs I g ∧ m < code.length ∧ cx code < 6500 ∧ rl code ≤ 1610 ∧ G.length ≤ 9 ∧ ((rStk ((m, d, vs, I) :: G)).length ≤ 8700 ∧ (cStk ((m, d, vs, I) :: G)).length ≤ 17500 ∧ n ≤ 597000) ∧ okTy fu T ∧ out.length ≤ 200000000 := by
  obtain ⟨g, P⟩ := K.pl0
  obtain ⟨b1, b2, b3, b4, b5, b6⟩ := K.bd
  obtain ⟨u, w, C1, C2, C4⟩ := C
  obtain ⟨f, R1, R2, R3, R4⟩ := R
  have h3 := K.2.1
  have h9 := K.2.2.2.2.2.2
  have hT := K.1.2
  obtain ⟨f1, f2, f3, f4, f5⟩ := hT
  have h6 := K.1.1.2.2.2.2.2
  simp only [List.length_cons] at h3
  exact ⟨u, w, f, g, C1, C2, C4 _ _ rfl, R1, ⟨R2, R3⟩, R4 _ _ rfl, P, P.2.1.2.2, K.1.1.2.2.2.2.1, by omega, by omega, ⟨b1, b2, b6⟩, ⟨f1, f2, f3, f4, f5⟩, by omega⟩
/-- both went one on -/
theorem goOn {t2 : cS} {s2 : mS} {k j : Nat} (hk : 1 ≤ k ∧ k ≤ 10 ∧ j ≤ k) (hQ : ∀ Q, cf_141_L4 N X (Q + k) 0 (Int32.ofNat n) t = cf_141_L4 N X Q 0 (Int32.ofNat (n + k)) t2) (hS : ∀ Q x2, mf_68_L10 N (Q + j) 0 x2 s = mf_68_L10 N Q 0 x2 s2) (C : CX t0 t2 p code Fs fu S0 u w ((m', d', vs', I') :: G) sh' T' out') (hu : u ≤ 100000 + 20 * T'.2.1) (hc : kI t2 49 17 = Int32.ofNat (posC code m' + d')) (R : RXm s0 s2 h code Fs fu f ((m', d', vs', I') :: G) sh' T' out') (hf : 154242 ≤ f ∧ f ≤ 154250 + T'.2.1) (hr : s2.1 69 = Int32.ofNat (ob0 h + posR code m' + d')) (K : CK code Fs fu ((m', d', vs', I') :: G) sh' T' out' (n + k)) : GO N X t0 s0 p h code Fs fu S0 t s n := Or.inl ⟨k, j, t2, s2, _, sh', T', out', hk.1, hk.2.1, hk.2.2, hQ, hS, ⟨u, w, C, hu, fun a G' e => by cases e; exact hc⟩, ⟨f, R, hf.1, hf.2, fun a G' e => by cases e; exact hr⟩, K⟩
end INB
