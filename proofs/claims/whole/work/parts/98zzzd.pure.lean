/-! ===== PURE: run (159): run ===== -/
section PRN
variable {N : Nat} {X : Nat → Option zz_C} {t t' t1 t2 tc tF : cS} {s s' s1 s2 sF : mS} {σ0 k p e u fi fu : Nat} {μ : Nat → Nat} {S S' : Nat → Option (Th 4)} {code : List Ins} {Fs : List Fn} {a1 a2 a3 : Int32} {l : List Int32}
theorem iS.rk (h : iS S σ0 k μ t s) (h88 : s'.1 88 = s.1 88) (h47 : ∀ y, y < 154240 → s'.2.2.1 47 y = s.2.2.1 47 y) : iS S σ0 k μ t s' := by
  obtain ⟨h1, h2, h3, h4, h5, h6, h7, h8, h9⟩ := h
  refine ⟨h1, h2, h3, by rw [h88]; exact h4, h5, fun j hj => ⟨(h6 j hj).1, rSl.congr (fun y z => h47 y ?_) (h6 j hj).2⟩, h7, h8, fun m hm => ⟨(h9 m hm).1, fun j hj => ⟨((h9 m hm).2 j hj).1, rSl.congr (fun y z => h47 y ?_) ((h9 m hm).2 j hj).2⟩⟩⟩
  · have := z.2
    omega
  · have := z.2
    omega
theorem shO_ok (h : iS S σ0 k μ t s) : ∀ i, i < 8 → ∀ x, shO S i = some x → wfN x ∧ x.1 ≤ 4 := by
  intro i hi x e
  unfold shO at e
  cases hS : S i with
  | none => rw [hS] at e; cases e
  | some y =>
    rw [hS] at e
    have e := Option.some.inj e
    rw [← e]
    exact ⟨h.2.2.2.2.2.2.1 i y hS, Nat.le_refl 4⟩
theorem pot_le (h : (kA t 46).1 ≤ 600) : pot t ≤ 123 := by
  unfold pot
  have a1 := lgc_le (kB t 43).1
  have a2 := lgc_le (kB t 44).1
  have a3 := lgc_le (kB t 52).1
  have a4 := lgc_le (kA t 55).1
  have a5 := lgc_le (kA t 56).1
  have a6 := lgc_le (kA t 57).1
  omega
theorem shF.ok (g : shF σ0 t t') (h : mOK t) : mOK t' := by
  have e := fun q h1 h2 => g.kB50 (q := q) h1 h2
  unfold mOK at h ⊢
  rw [(e 53 (by omega) (by omega)).2, (e 54 (by omega) (by omega)).2, (e 50 (by omega) (by omega)).1, (e 51 (by omega) (by omega)).2, (e 60 (by omega) (by omega)).2, (e 52 (by omega) (by omega)).1, (e 55 (by omega) (by omega)).2, (e 56 (by omega) (by omega)).2, (e 57 (by omega) (by omega)).2]
  exact h
theorem shF.out (g : shF σ0 t t') (h : cOut t l) (hr : rmK t') : cOut t' l := by
  have e := fun q h1 h2 => g.kB50 (q := q) h1 h2
  obtain ⟨z1, z2, z3, z4, z5, z6, z7⟩ := h
  refine ⟨by rw [g.1.1 45 1 (fun q => q)]; exact z1, ?_, ?_, ?_, ?_, ?_, hr⟩
  · rw [(e 46 (by omega) (by omega)).2]; exact z2
  · rw [(e 46 (by omega) (by omega)).2]; exact z3
  · rw [(e 46 (by omega) (by omega)).2]; exact z4
  · rw [(e 46 (by omega) (by omega)).2]; exact z5
  · rw [(e 47 (by omega) (by omega)).2]; exact z6
/-- the machine before its first call -/
theorem c_first (hE : cPg t2 p (CA code)) (hF : cFt t2 p Fs.length code Fs) (hp : p = 12 ∨ p = 21) (hh : cHp t2 u 0) (hs : ∀ j, j < 8 → cC (cel t2) u ((kB t2 50).2 j) (shO S j) ∧ (kA t2 51).2 j = 0) (hT : cTy t2 fu (0, 0, 0, 0)) (hi : kI t2 48 6 = Int32.ofNat 0 ∧ kI t2 48 7 = -Int32.ofNat 1 ∧ kI t2 48 8 = Int32.ofNat 0) (hO : cOut t2 []) (hM : mOK t2) (htc : tc = jI (jI (jI (jI (jI (jP t2 49 16 (some p)) 49 8 0) 49 11 0) 49 15 0) 49 17 0) 49 18 1) : CX tc tc p code Fs fu (shO S) u 0 [] (shO S) (0, 0, 0, 0) [] ∧ kI tc 49 17 = Int32.ofNat 0 ∧ rnF σ0 t2 tc ∧ (∀ f, kI tc 48 f = kI t2 48 f) ∧ kM tc = kM t2 ∧ gf (fun k _ => k = 49) (fun _ => False) (jP t2 49 16 (some p)) tc := by
  have g : gf (fun k _ => k = 49) (fun _ => False) (jP t2 49 16 (some p)) tc := by
    rw [htc]
    refine ⟨fun k f r => ?_, rfl, rfl, fun _ _ _ => ⟨rfl, rfl, rfl⟩, rfl, rfl, Nat.le_refl _, Nat.le_refl _, Nat.le_refl _⟩
    show (if k = 49 ∧ f = 18 then _ else if k = 49 ∧ f = 17 then _ else if k = 49 ∧ f = 15 then _ else if k = 49 ∧ f = 11 then _ else if k = 49 ∧ f = 8 then _ else kI t2 k f) = _
    have r : ¬ k = 49 := r
    repeat rw [if_neg (fun q => r q.1)]
    rfl
  have hE0 : cEv (jP t2 49 16 (some p)) p code Fs := ⟨rfl, hp, hE, hF⟩
  have hEc : cEv tc p code Fs := hE0.keep g (fun f => ⟨fun q => by omega, fun q => by omega⟩) (fun k _ _ q => q)
  have k48 : ∀ f, kI tc 48 f = kI t2 48 f := fun f => (g.1 48 f (by omega))
  have hhc : cHp tc u 0 := g.hp (t := jP t2 49 16 (some p)) hh (by omega) (by omega) (fun q => q) (fun q => q) (fun q => q)
  have hOc : cOut tc [] := gf.out (t := jP t2 49 16 (some p)) g (by omega) (fun q => q) (fun q => q) hO
  have ea : kA tc = kA t2 := by rw [htc]; rfl
  have eb : kB tc = kB t2 := by rw [htc]; rfl
  obtain ⟨m1, ⟨m2, m3⟩, m4, m5, m6, m7⟩ := hM
  obtain ⟨t1, t2', t3, t4, t5⟩ := hT
  refine ⟨⟨⟨hEc, ⟨by rw [k48]; exact t1, by rw [k48]; exact t2', by rw [k48]; exact t3, by rw [k48]; exact t4, by rw [k48]; exact t5⟩, ⟨by rw [k48]; exact hi.1, by rw [k48]; exact hi.2.1, by rw [k48]; exact hi.2.2⟩, hOc, by rw [htc]; rfl, gf.rf⟩, ⟨⟨trivial, Nat.zero_le _, by rw [eb]; exact m2, by rw [eb]; exact m3⟩, trivial, trivial, ?_, ?_, fun i hi => ?_, by rw [htc]; rfl, by rw [htc]; rfl⟩, hhc, by rw [htc]; rfl⟩, by rw [htc]; rfl, rnF_P.tr (g.rnF (fun k f q => by omega) (fun k q => q.elim)), k48, by rw [htc]; rfl, g⟩
  · rw [ea, eb]; exact m1
  · rw [ea]; exact ⟨Nat.zero_le _, m4, m5, m6, m7⟩
  · have := hs i hi
    unfold cel
    rw [ea, eb]
    exact ⟨this.1, Or.inl this.2, fun _ => rfl⟩
theorem p_run (hN : 700000 ≤ N) (hX : oX N X) (hY : oY X) (hZ : oZ X) (h : iS S σ0 k μ t s) (hG : PGI t s p e) (h13 : s.1 13 = 0 → s.1 14 = 0) (hH : iH t) (hM : mOK t) (hO : cOut t l) (hB : kN t + 30000 < zz_out) : ∃ t' s', ∃ v : Int32, cf_6 N X a1 a2 a3 t = some (t', .inl (some (.int v))) ∧ mf_68 N a1 a2 a3 s = some (s', some (.int v)) ∧ ((t' = t ∧ s' = s) ∨ ∃ S' l', iS S' σ0 k μ t' s' ∧ iH t' ∧ mOK t' ∧ cOut t' l' ∧ rOut s' l' ∧ l'.length ≤ 200000000 ∧ iT t' s' ∧ rnF σ0 t t' ∧ rnM s s') := by
  obtain ⟨code, Fs, ⟨g1, g2, g3, g4, g5⟩, g6, g7, g8, g9, g10⟩ := hG
  rcases run_args (N := N) (X := X) (a1 := a1) (a2 := a2) (a3 := a3) g7 g1 g2 g3 g4 g5 g9 g10.1 h13 with ⟨q1, q2⟩ | ⟨fi, fu, hfi, e1, pz, e3, f1, f2, hx2, q1, q2⟩
  · exact ⟨t, s, -1, q1, q2, Or.inl ⟨rfl, rfl⟩⟩
  · subst e1 e3
    rw [q1, q2]
    obtain ⟨t2, u, b1, b2, b3, ⟨b4, b5⟩, b6, b7, b8, b9, b10, b11⟩ := c_beg (N := N) (X := X) (fu := fu) (x1 := Int32.ofNat fi) (x2 := a2) (by omega) h hH ⟨hM.1.2.2.1, hM.1.2.2.2.1⟩ hO
    obtain ⟨s2, d1, d2, d3, d4, d5, d6⟩ := r_beg (N := N) (fu := fu) (x1 := Int32.ofNat fi) (x2 := a2) (e := e) (code := code) (Fs := Fs) (by omega) h ⟨by omega, g8, g9⟩
    rw [b1, d1]
    have kA2 : ∀ q, 13 ≤ q → q ≤ 42 ∨ (45 ≤ q ∧ q ≤ 49) ∨ (52 ≤ q ∧ q ≤ 60) → kA t2 q = kA t q ∧ kB t2 q = kB t q := fun q q1 q2 => by
      have := b2.2.2.2.1 q (by omega) (by omega)
      exact ⟨this.1, this.2.1⟩
    have kIp : ∀ f, kI t2 p f = kI t p f := fun f => b2.1 p f (by omega)
    have hPg : cPg t2 p (CA code) := by
      unfold cPg at g6 ⊢
      rw [kIp, (kA2 (p + 1) (by omega) (by omega)).1, (kA2 (p + 2) (by omega) (by omega)).1, (kA2 (p + 3) (by omega) (by omega)).1]
      exact g6
    have hFt : cFt t2 p Fs.length code Fs := by
      unfold cFt at g7 ⊢
      rw [kIp, (kA2 (p + 4) (by omega) (by omega)).2, (kA2 (p + 5) (by omega) (by omega)).1, (kA2 (p + 6) (by omega) (by omega)).1, (kA2 (p + 7) (by omega) (by omega)).1, (kA2 (p + 8) (by omega) (by omega)).1]
      exact g7
    have hM2 : mOK t2 := by
      unfold mOK at hM ⊢
      rw [(kA2 53 (by omega) (by omega)).1, (kA2 54 (by omega) (by omega)).1, (kA2 60 (by omega) (by omega)).1, (kA2 52 (by omega) (by omega)).2, (kA2 55 (by omega) (by omega)).1, (kA2 56 (by omega) (by omega)).1, (kA2 57 (by omega) (by omega)).1]
      exact ⟨⟨hM.1.1, hM.1.2.1, b11.1, b11.2, hM.1.2.2.2.2⟩, hM.2⟩
    obtain ⟨tc, htc⟩ : ∃ tc, tc = jI (jI (jI (jI (jI (jP t2 49 16 (some p)) 49 8 0) 49 11 0) 49 15 0) 49 17 0) 49 18 1 := ⟨_, rfl⟩
    obtain ⟨CC, c17, cR, c48, cM, cg⟩ := c_first (σ0 := σ0) hPg hFt g2 b4 b6 b7 b8 b10 hM2 htc
    have hFO := g10.1 _ (List.getElem_mem hfi)
    obtain ⟨t3, w1, w2, w3⟩ := CC.enter0 (N := N) (X := X) (fi := fi) (q := Int32.ofNat 0) (by omega) hfi c17 hFO.2.2.2.2.2.2.1.2.1 (Nat.zero_le _)
    obtain ⟨s3, v1, v2, v3⟩ := d2.enter0 (N := N) (fi := fi) (by omega) hfi g7.2.1 hFO.2.2.2.2.2.2.1.2.1 (Nat.zero_le _)
    have CS0 : CS tc t3 p code Fs fu (shO S) [(Fs[fi].2.2.2.2.1, 0, List.replicate Fs[fi].2.2.2.1 none, [])] (shO S) (opT (0, 0, 0, 0) 1) [] := ⟨u, 0, w2, by omega, fun a G q => by cases q; exact w3⟩
    have RS0 : RSm s2 s3 (1 - e) code Fs fu [(Fs[fi].2.2.2.2.1, 0, List.replicate Fs[fi].2.2.2.1 none, [])] (shO S) (opT (0, 0, 0, 0) 1) [] := ⟨154250, v2, by omega, Nat.le_add_right _ _, fun a G q => by cases q; exact v3⟩
    have CK0 : CK code Fs fu [(Fs[fi].2.2.2.2.1, 0, List.replicate Fs[fi].2.2.2.1 none, [])] (shO S) (opT (0, 0, 0, 0) 1) [] 0 := by
      refine ⟨⟨g10, f2, Nat.zero_le _, Nat.zero_le _, by show (if 0 < 1 then 1 else 0) ≤ 10; decide, Nat.le_refl _⟩, by show 1 ≤ 10; omega, ⟨_, [], rfl, ⟨[], hFO.2.2.1, Or.inl ⟨rfl, rfl, fun y hy => by cases hy⟩⟩, ⟨Fs[fi], List.getElem_mem hfi, Nat.le_refl _, hFO.1, List.length_replicate, trivial⟩, fun a ha => by cases ha⟩, ?_, shO_ok h, by show 0 + (4 + 0 + 0) ≤ 0 + 0 + 0 + 4; omega, Nat.le_refl _⟩
      intro x hx
      have hx : some x ∈ [] ++ ((List.replicate Fs[fi].2.2.2.1 (none : Option Nod)).reverse ++ []) := hx
      rw [List.nil_append, List.append_nil, List.mem_reverse] at hx
      have := (List.mem_replicate.mp hx).2
      cases this
    obtain ⟨qc, qr, tF, sF, n1, n2, e1, e2, FF⟩ := run_ends (N := N) (X := X) (by omega) hX (oW_Z hX hY hZ) CS0 RS0 CK0
    have eC : cf_141_L4 N X N 0 (Int32.ofNat 0) t3 = some (tF, .inl none) := by
      have := e1 (N - qc)
      rw [Nat.sub_add_cancel (by omega)] at this
      exact this
    have eR : mf_68_L10 N N 0 a2 s3 = mf_68_320 N a2 sF := by
      have := e2 (N - qr) a2
      rw [Nat.sub_add_cancel (by omega)] at this
      exact this
    have E1 : cf_6_98 N X (Int32.ofNat fi) a2 t2 = cf_6_110 N X a2 tF := by
      have hP : kP t2 0 3 = some p := by rw [b2.2.2.1]; exact g1
      have w1' : cf_157 N X (Int32.ofNat fi) 0 0 tc = some (t3, .inl none) := w1
      have e141 : cf_141 N X p (Int32.ofNat fi) t2 = some (tF, .inl none) := by
        unfold cf_141 cf_141_0
        rw [← htc, w1']
        exact eC
      unfold cf_6_98
      rw [hP]
      show ko_call 3 (cf_141 N X p (Int32.ofNat fi) t2) _ = _
      rw [e141]
      rfl
    have E2 : mf_68_243 N (Int32.ofNat fi) a2 s2 = mf_68_320 N a2 sF := by
      have eix : (12 : Int32) * s2.1 12 + Int32.ofNat fi = Int32.ofNat (fb0 (1 - e) + fi) := by
        rw [d4, g3, show fb0 (1 - e) + fi = 12 * e + fi by unfold fb0; omega]
        show Int32.ofNat 12 * Int32.ofNat e + Int32.ofNat fi = _
        rw [i32mul, i32add]
      have v1' : mf_310 N (Int32.ofNat (fb0 (1 - e) + fi)) 0 (-1) s2 = some (s3, none) := v1
      unfold mf_68_243
      rw [eix, v1']
      exact eR
    rw [E1, E2]
    obtain ⟨F1, F2, F3, ⟨out, o1, o2, o3⟩, ⟨k1, k2, k3, k4, k5, k6, k7⟩, hh⟩ := FF
    -- what is left alone
    have iB : iS S σ0 k μ (jP t2 49 16 (some p)) s := b3
    have i1 : iS S σ0 k μ tc s := iB.gf cg (by omega) (fun k q => q.elim) rfl rfl
    have i2 : iS S σ0 k μ tF s := i1.gf F1 (by omega) (fun k q => by omega) rfl rfl
    have i3 : iS S σ0 k μ tF sF := i2.rk (by rw [F2.1.1 88 (by unfold iRn; omega)]; exact d5.1 88 (by unfold iRn; omega)) (fun y hy => (F2.2 y hy).trans (d6 y hy))
    have r1 : rnF σ0 t tF := ((b2.rnF (fun k f q => by omega) (fun k q => by omega)).tr cR).tr (F1.rnF (fun k f q => by omega) (fun k q => q))
    have m1 : rnM s sF := rnM.tr d5 ⟨fun q r => F2.1.1 q (fun z => r (Or.inl z)), F2.1.2.1, F2.1.2.2.1, F2.1.2.2.2⟩
    have h480 : kI tF 48 0 = 1 := by rw [F1.1 48 0 (by omega), c48]; exact b9
    have h68 : sF.1 68 = 1 := by rw [F2.1.1 68 (by unfold iRn; omega)]; exact d3
    rcases hh with ⟨⟨kq, kq1, kq2, kq3⟩, u2, w2', hp2⟩ | ⟨z66, u2, w2', f, sh, x, hp2, hu2, hf2, h48f, h498, ⟨hx, hwx⟩, hrx, hsh⟩
    · have hk6 : kI tF 48 6 = Int32.ofNat kq := by rw [k1]; exact kq3
      have nz : ¬ Int32.ofNat kq = 0 := fun q => by have := ofNat_inj (b := 0) (by omega) (by omega) q; omega
      refine ⟨tF, sF, Int32.ofNat kq, ?_, ?_, Or.inr ⟨S, out, i3, hp2.iH, F3, o1, o2, o3, ⟨by rw [h480, h68], fun _ => ⟨k1, k2, k3, k4, k5, k6, k7⟩⟩, r1, m1⟩⟩
      · unfold cf_6_110 cf_234 cf_234_0
        rw [hk6]
        show cf_6_117 N X a2 (Int32.ofNat kq) tF = _
        unfold cf_6_117
        rw [if_pos nz]
        unfold cf_6_125 cf_234 cf_234_0
        rw [hk6]
        rfl
      · have ng : ¬ sF.1 66 ≤ 0 := by
          rw [kq3]
          exact fun q => by have := (i32le (b := 0) (by omega) (by omega)).mp q; omega
        unfold mf_68_320
        rw [if_neg ng]
        unfold mf_68_327
        rw [kq3]
    · have hsW : ∀ j, j < 8 → ∀ y, (if a2 = Int32.ofNat j then some x else sh j) = some y → wfN y ∧ y.1 ≤ 4 := fun j hj y q => by
        by_cases c : a2 = Int32.ofNat j
        · rw [if_pos c] at q
          cases q
          exact hwx
        · rw [if_neg c] at q
          exact (hsh j hj).2.2.2.2 y q
      have key : ∃ S' : Nat → Option (Th 4), ∀ j, j < 8 → (∀ z, S' j = some z → wfT 4 z) ∧ serO (S' j) = serNo (if a2 = Int32.ofNat j then some x else sh j) ∧ lfR (if a2 = Int32.ofNat j then some x else sh j) (S' j) := by
        refine ⟨fun j => if hj : j < 8 then Classical.choose (lfO (hsW j hj)) else none, fun j hj => ?_⟩
        show (∀ z, (if hj : j < 8 then _ else none) = some z → wfT 4 z) ∧ serO (if hj : j < 8 then _ else none) = _ ∧ lfR _ (if hj : j < 8 then _ else none)
        rw [dif_pos hj]
        exact Classical.choose_spec (lfO (hsW j hj))
      obtain ⟨S', hS'⟩ := key
      have hBF : kN tF + 28000 < zz_out := by
        have h1 := r1.2.2.2.2.2.2.1
        have h2 := pot_le (t := tF) (by have := o1.2.2.2.2.2.2; exact this.2)
        have h3 := gS_le (t := tF) i3.2.2.2.2.1.1
        have h4 := gf.gS (σ := σ0) F1 (fun k q => by omega)
        have h5 := gf.gS (σ := σ0) cg (fun k q => q.elim)
        have h6 := gf.gS (σ := σ0) b2 (fun k q => by omega)
        have h7 : gS (jP t2 49 16 (some p)) σ0 = gS t2 σ0 := rfl
        omega
      have F3' := F3
      obtain ⟨m10, ⟨m2, m3⟩, -⟩ := F3
      obtain ⟨t', j1, ⟨uu, ww, j2⟩, j3, j4, j5⟩ := c_keep (N := N) (X := X) (x := x) (x1 := a2) (sh := sh) (sh' := fun j => if a2 = Int32.ofNat j then some x else sh j) (S' := S') (by omega) i3 hp2 m10.2.2.1 m10.2.2.2.1 m2 h498 hx hwx hx2 (fun _ _ => rfl) (fun j hj => (hS' j hj).2.1) (fun j hj => ⟨(hsh j hj).1, (hsh j hj).2.1, (hsh j hj).2.2.1, (hsh j hj).2.2.2.2⟩) hBF
      obtain ⟨s', l1, l2, l3, l4⟩ := r_fin (N := N) (x := x) (x2 := a2) (sh := sh) (sh' := fun j => if a2 = Int32.ofNat j then some x else sh j) (S' := S') (f := f) (by omega) hf2 z66 hx2 (fun _ _ => rfl) hsW (fun j hj => (hS' j hj).2.2) (fun j hj => (hS' j hj).1) (fun j hj => (hsh j hj).2.2.2.1) hrx
      have k48 : ∀ f, kI t' 48 f = kI tF 48 f := fun f => j5.1.1 48 f (fun q => q)
      have hk6 : kI tF 48 6 = Int32.ofNat 0 := by rw [k1]; exact z66
      have hO' : cOut t' out := j5.out o1 j2.2.2.2.2.2.2.2.2
      have si : ∀ q, s'.1 q = sF.1 q := fun q => l3.1 q (fun z => z)
      refine ⟨t', s', 0, ?_, l1, Or.inr ⟨_, out, i3.all j3 j4 j5 (si 88) l4 l2 (fun j hj => (hS' j hj).1), j2.iH, j5.ok F3', hO', ⟨by rw [si 87]; exact o2.1, fun i hi h6 => by rw [l3.2.2.1 86 (by omega)]; exact o2.2 i hi h6⟩, o3, ⟨by rw [k48, si 68, h480, h68], fun _ => ?_⟩, r1.tr j5.rnF, rnM.tr m1 ⟨fun q r => si q, fun q r => l3.2.1 q (fun z => z), fun q r => l3.2.2.1 q (by unfold aRn at r; omega), l3.2.2.2⟩⟩⟩
      · unfold cf_6_110 cf_234 cf_234_0
        rw [hk6]
        show cf_6_117 N X a2 (Int32.ofNat 0) tF = _
        unfold cf_6_117
        rw [if_neg (fun q => q rfl)]
        unfold cf_6_120
        rw [j1]
        show cf_6_125 N X t' = _
        unfold cf_6_125 cf_234 cf_234_0
        rw [k48, hk6]
        rfl
      · rw [k48, k48, k48, k48, k48, k48, k48, si 66, si 67, si 65, si 60, si 62, si 63, si 64]
        exact ⟨k1, k2, k3, k4, k5, k6, k7⟩
end PRN
