-- ### 98zzzd.pure.lean.txt
section
/-! ===== PURE: run (159): run ===== -/
section PRN
variable {N : Nat} {X : Nat → Option zz_C} {t t' t1 t2 tc tF : cS} {s s' s1 s2 sF : mS} {σ0 k p e u fi fu : Nat} {μ : Nat → Nat} {S S' : Nat → Option (Th 4)} {code : List Ins} {Fs : List Fn} {a1 a2 a3 : Int32} {l : List Int32}
theorem iS.rk (h : iS S σ0 k μ t s) (h88 : s'.1 88 = s.1 88) (h47 : ∀ y, y < 154240 → s'.2.2.1 47 y = s.2.2.1 47 y) : iS S σ0 k μ t s' := by
  obtain ⟨h1, h2, h3, h4, h5, h6, h7, h8, h9⟩ := h
  refine ⟨h1, h2, h3, by rw [h88]; exact h4, h5, fun j hj => ⟨(h6 j hj).1, rSl.congr (fun y z => h47 y ?_) (h6 j hj).2⟩, h7, h8, fun m hm => ⟨(h9 m hm).1, fun j hj => ⟨((h9 m hm).2 j hj).1, rSl.congr (fun y z => h47 y ?_) ((h9 m hm).2 j hj).2⟩⟩⟩
  · have := z.2
    omega
  · have := z.2
    omega
theorem shO_ok (h : iS S σ0 k μ t s) : ∀ i, i < 8 → ∀ x, shO S i = some x → wfN x ∧ x.1 ≤ 4 := by
  intro i hi x e
  unfold shO at e
  cases hS : S i with
  | none => rw [hS] at e; cases e
  | some y =>
    rw [hS] at e
    have e := Option.some.inj e
    rw [← e]
    exact ⟨h.2.2.2.2.2.2.1 i y hS, Nat.le_refl 4⟩
theorem pot_le (h : (kA t 46).1 ≤ 600) : pot t ≤ 123 := by
  unfold pot
  have a1 := lgc_le (kB t 43).1
  have a2 := lgc_le (kB t 44).1
  have a3 := lgc_le (kB t 52).1
  have a4 := lgc_le (kA t 55).1
  have a5 := lgc_le (kA t 56).1
  have a6 := lgc_le (kA t 57).1
  omega
theorem shF.ok (g : shF σ0 t t') (h : mOK t) : mOK t' := by
  have e := fun q h1 h2 => g.kB50 (q := q) h1 h2
  unfold mOK at h ⊢
  rw [(e 53 (by omega) (by omega)).2, (e 54 (by omega) (by omega)).2, (e 50 (by omega) (by omega)).1, (e 51 (by omega) (by omega)).2, (e 60 (by omega) (by omega)).2, (e 52 (by omega) (by omega)).1, (e 55 (by omega) (by omega)).2, (e 56 (by omega) (by omega)).2, (e 57 (by omega) (by omega)).2]
  exact h
theorem shF.out (g : shF σ0 t t') (h : cOut t l) (hr : rmK t') : cOut t' l := by
  have e := fun q h1 h2 => g.kB50 (q := q) h1 h2
  obtain ⟨z1, z2, z3, z4, z5, z6, z7⟩ := h
  refine ⟨by rw [g.1.1 45 1 (fun q => q)]; exact z1, ?_, ?_, ?_, ?_, ?_, hr⟩
  · rw [(e 46 (by omega) (by omega)).2]; exact z2
  · rw [(e 46 (by omega) (by omega)).2]; exact z3
  · rw [(e 46 (by omega) (by omega)).2]; exact z4
  · rw [(e 46 (by omega) (by omega)).2]; exact z5
  · rw [(e 47 (by omega) (by omega)).2]; exact z6
/-- the machine before its first call -/
theorem c_first (hE : cPg t2 p (CA code)) (hF : cFt t2 p Fs.length code Fs) (hp : p = 12 ∨ p = 21) (hh : cHp t2 u 0) (hs : ∀ j, j < 8 → cC (cel t2) u ((kB t2 50).2 j) (shO S j) ∧ (kA t2 51).2 j = 0) (hT : cTy t2 fu (0, 0, 0, 0)) (hi : kI t2 48 6 = Int32.ofNat 0 ∧ kI t2 48 7 = -Int32.ofNat 1 ∧ kI t2 48 8 = Int32.ofNat 0) (hO : cOut t2 []) (hM : mOK t2) (htc : tc = jI (jI (jI (jI (jI (jP t2 49 16 (some p)) 49 8 0) 49 11 0) 49 15 0) 49 17 0) 49 18 1) : CX tc tc p code Fs fu (shO S) u 0 [] (shO S) (0, 0, 0, 0) [] ∧ kI tc 49 17 = Int32.ofNat 0 ∧ rnF σ0 t2 tc ∧ (∀ f, kI tc 48 f = kI t2 48 f) ∧ kM tc = kM t2 ∧ gf (fun k _ => k = 49) (fun _ => False) (jP t2 49 16 (some p)) tc := by
  have g : gf (fun k _ => k = 49) (fun _ => False) (jP t2 49 16 (some p)) tc := by
    rw [htc]
    refine ⟨fun k f r => ?_, rfl, rfl, fun _ _ _ => ⟨rfl, rfl, rfl⟩, rfl, rfl, Nat.le_refl _, Nat.le_refl _, Nat.le_refl _⟩
    show (if k = 49 ∧ f = 18 then _ else if k = 49 ∧ f = 17 then _ else if k = 49 ∧ f = 15 then _ else if k = 49 ∧ f = 11 then _ else if k = 49 ∧ f = 8 then _ else kI t2 k f) = _
    have r : ¬ k = 49 := r
    repeat rw [if_neg (fun q => r q.1)]
    rfl
  have hE0 : cEv (jP t2 49 16 (some p)) p code Fs := ⟨rfl, hp, hE, hF⟩
  have hEc : cEv tc p code Fs := hE0.keep g (fun f => ⟨fun q => by omega, fun q => by omega⟩) (fun k _ _ q => q)
  have k48 : ∀ f, kI tc 48 f = kI t2 48 f := fun f => (g.1 48 f (by omega))
  have hhc : cHp tc u 0 := g.hp (t := jP t2 49 16 (some p)) hh (by omega) (by omega) (fun q => q) (fun q => q) (fun q => q)
  have hOc : cOut tc [] := gf.out (t := jP t2 49 16 (some p)) g (by omega) (fun q => q) (fun q => q) hO
  have ea : kA tc = kA t2 := by rw [htc]; rfl
  have eb : kB tc = kB t2 := by rw [htc]; rfl
  obtain ⟨m1, ⟨m2, m3⟩, m4, m5, m6, m7⟩ := hM
  obtain ⟨t1, t2', t3, t4, t5⟩ := hT
  refine ⟨⟨⟨hEc, ⟨by rw [k48]; exact t1, by rw [k48]; exact t2', by rw [k48]; exact t3, by rw [k48]; exact t4, by rw [k48]; exact t5⟩, ⟨by rw [k48]; exact hi.1, by rw [k48]; exact hi.2.1, by rw [k48]; exact hi.2.2⟩, hOc, by rw [htc]; rfl, gf.rf⟩, ⟨⟨trivial, Nat.zero_le _, by rw [eb]; exact m2, by rw [eb]; exact m3⟩, trivial, trivial, ?_, ?_, fun i hi => ?_, by rw [htc]; rfl, by rw [htc]; rfl⟩, hhc, by rw [htc]; rfl⟩, by rw [htc]; rfl, rnF_P.tr (g.rnF (fun k f q => by omega) (fun k q => q.elim)), k48, by rw [htc]; rfl, g⟩
  · rw [ea, eb]; exact m1
  · rw [ea]; exact ⟨Nat.zero_le _, m4, m5, m6, m7⟩
  · have := hs i hi
    unfold cel
    rw [ea, eb]
    exact ⟨this.1, Or.inl this.2, fun _ => rfl⟩
theorem p_run (hN : 700000 ≤ N) (hX : oX N X) (hY : oY X) (hZ : oZ X) (h : iS S σ0 k μ t s) (hG : PGI t s p e) (h13 : s.1 13 = 0 → s.1 14 = 0) (hH : iH t) (hM : mOK t) (hO : cOut t l) (hB : kN t + 30000 < zz_out) : ∃ t' s', ∃ v : Int32, cf_6 N X a1 a2 a3 t = some (t', .inl (some (.int v))) ∧ mf_68 N a1 a2 a3 s = some (s', some (.int v)) ∧ ((t' = t ∧ s' = s) ∨ ∃ S' l', iS S' σ0 k μ t' s' ∧ iH t' ∧ mOK t' ∧ cOut t' l' ∧ rOut s' l' ∧ l'.length ≤ 200000000 ∧ iT t' s' ∧ rnF σ0 t t' ∧ rnM s s') := by
  obtain ⟨code, Fs, ⟨g1, g2, g3, g4, g5⟩, g6, g7, g8, g9, g10⟩ := hG
  rcases run_args (N := N) (X := X) (a1 := a1) (a2 := a2) (a3 := a3) g7 g1 g2 g3 g4 g5 g9 g10.1 h13 with ⟨q1, q2⟩ | ⟨fi, fu, hfi, e1, pz, e3, f1, f2, hx2, q1, q2⟩
  · exact ⟨t, s, -1, q1, q2, Or.inl ⟨rfl, rfl⟩⟩
  · subst e1 e3
    rw [q1, q2]
    obtain ⟨t2, u, b1, b2, b3, ⟨b4, b5⟩, b6, b7, b8, b9, b10, b11⟩ := c_beg (N := N) (X := X) (fu := fu) (x1 := Int32.ofNat fi) (x2 := a2) (by omega) h hH ⟨hM.1.2.2.1, hM.1.2.2.2.1⟩ hO
    obtain ⟨s2, d1, d2, d3, d4, d5, d6⟩ := r_beg (N := N) (fu := fu) (x1 := Int32.ofNat fi) (x2 := a2) (e := e) (code := code) (Fs := Fs) (by omega) h ⟨by omega, g8, g9⟩
    rw [b1, d1]
    have kA2 : ∀ q, 13 ≤ q → q ≤ 42 ∨ (45 ≤ q ∧ q ≤ 49) ∨ (52 ≤ q ∧ q ≤ 60) → kA t2 q = kA t q ∧ kB t2 q = kB t q := fun q q1 q2 => by
      have := b2.2.2.2.1 q (by omega) (by omega)
      exact ⟨this.1, this.2.1⟩
    have kIp : ∀ f, kI t2 p f = kI t p f := fun f => b2.1 p f (by omega)
    have hPg : cPg t2 p (CA code) := by
      unfold cPg at g6 ⊢
      rw [kIp, (kA2 (p + 1) (by omega) (by omega)).1, (kA2 (p + 2) (by omega) (by omega)).1, (kA2 (p + 3) (by omega) (by omega)).1]
      exact g6
    have hFt : cFt t2 p Fs.length code Fs := by
      unfold cFt at g7 ⊢
      rw [kIp, (kA2 (p + 4) (by omega) (by omega)).2, (kA2 (p + 5) (by omega) (by omega)).1, (kA2 (p + 6) (by omega) (by omega)).1, (kA2 (p + 7) (by omega) (by omega)).1, (kA2 (p + 8) (by omega) (by omega)).1]
      exact g7
    have hM2 : mOK t2 := by
      unfold mOK at hM ⊢
      rw [(kA2 53 (by omega) (by omega)).1, (kA2 54 (by omega) (by omega)).1, (kA2 60 (by omega) (by omega)).1, (kA2 52 (by omega) (by omega)).2, (kA2 55 (by omega) (by omega)).1, (kA2 56 (by omega) (by omega)).1, (kA2 57 (by omega) (by omega)).1]
      exact ⟨⟨hM.1.1, hM.1.2.1, b11.1, b11.2, hM.1.2.2.2.2⟩, hM.2⟩
    obtain ⟨tc, htc⟩ : ∃ tc, tc = jI (jI (jI (jI (jI (jP t2 49 16 (some p)) 49 8 0) 49 11 0) 49 15 0) 49 17 0) 49 18 1 := ⟨_, rfl⟩
    obtain ⟨CC, c17, cR, c48, cM, cg⟩ := c_first (σ0 := σ0) hPg hFt g2 b4 b6 b7 b8 b10 hM2 htc
    have hFO := g10.1 _ (List.getElem_mem hfi)
    obtain ⟨t3, w1, w2, w3⟩ := CC.enter0 (N := N) (X := X) (fi := fi) (q := Int32.ofNat 0) (by omega) hfi c17 hFO.2.2.2.2.2.2.1.2.1 (Nat.zero_le _)
    obtain ⟨s3, v1, v2, v3⟩ := d2.enter0 (N := N) (fi := fi) (by omega) hfi g7.2.1 hFO.2.2.2.2.2.2.1.2.1 (Nat.zero_le _)
    have CS0 : CS tc t3 p code Fs fu (shO S) [(Fs[fi].2.2.2.2.1, 0, List.replicate Fs[fi].2.2.2.1 none, [])] (shO S) (opT (0, 0, 0, 0) 1) [] := ⟨u, 0, w2, by omega, fun a G q => by cases q; exact w3⟩
    have RS0 : RSm s2 s3 (1 - e) code Fs fu [(Fs[fi].2.2.2.2.1, 0, List.replicate Fs[fi].2.2.2.1 none, [])] (shO S) (opT (0, 0, 0, 0) 1) [] := ⟨154250, v2, by omega, Nat.le_add_right _ _, fun a G q => by cases q; exact v3⟩
    have CK0 : CK code Fs fu [(Fs[fi].2.2.2.2.1, 0, List.replicate Fs[fi].2.2.2.1 none, [])] (shO S) (opT (0, 0, 0, 0) 1) [] 0 := by
      refine ⟨⟨g10, f2, Nat.zero_le _, Nat.zero_le _, by show (if 0 < 1 then 1 else 0) ≤ 10; decide, Nat.le_refl _⟩, by show 1 ≤ 10; omega, ⟨_, [], rfl, ⟨[], hFO.2.2.1, Or.inl ⟨rfl, rfl, fun y hy => by cases hy⟩⟩, ⟨Fs[fi], List.getElem_mem hfi, Nat.le_refl _, hFO.1, List.length_replicate, trivial⟩, fun a ha => by cases ha⟩, ?_, shO_ok h, by show 0 + (4 + 0 + 0) ≤ 0 + 0 + 0 + 4; omega, Nat.le_refl _⟩
      intro x hx
      have hx : some x ∈ [] ++ ((List.replicate Fs[fi].2.2.2.1 (none : Option Nod)).reverse ++ []) := hx
      rw [List.nil_append, List.append_nil, List.mem_reverse] at hx
      have := (List.mem_replicate.mp hx).2
      cases this
    obtain ⟨qc, qr, tF, sF, n1, n2, e1, e2, FF⟩ := run_ends (N := N) (X := X) (by omega) hX (oW_Z hX hY hZ) CS0 RS0 CK0
    have eC : cf_141_L4 N X N 0 (Int32.ofNat 0) t3 = some (tF, .inl none) := by
      have := e1 (N - qc)
      rw [Nat.sub_add_cancel (by omega)] at this
      exact this
    have eR : mf_68_L10 N N 0 a2 s3 = mf_68_320 N a2 sF := by
      have := e2 (N - qr) a2
      rw [Nat.sub_add_cancel (by omega)] at this
      exact this
    have E1 : cf_6_98 N X (Int32.ofNat fi) a2 t2 = cf_6_110 N X a2 tF := by
      have hP : kP t2 0 3 = some p := by rw [b2.2.2.1]; exact g1
      have w1' : cf_157 N X (Int32.ofNat fi) 0 0 tc = some (t3, .inl none) := w1
      have e141 : cf_141 N X p (Int32.ofNat fi) t2 = some (tF, .inl none) := by
        unfold cf_141 cf_141_0
        rw [← htc, w1']
        exact eC
      unfold cf_6_98
      rw [hP]
      show ko_call 3 (cf_141 N X p (Int32.ofNat fi) t2) _ = _
      rw [e141]
      rfl
    have E2 : mf_68_243 N (Int32.ofNat fi) a2 s2 = mf_68_320 N a2 sF := by
      have eix : (12 : Int32) * s2.1 12 + Int32.ofNat fi = Int32.ofNat (fb0 (1 - e) + fi) := by
        rw [d4, g3, show fb0 (1 - e) + fi = 12 * e + fi by unfold fb0; omega]
        show Int32.ofNat 12 * Int32.ofNat e + Int32.ofNat fi = _
        rw [i32mul, i32add]
      have v1' : mf_310 N (Int32.ofNat (fb0 (1 - e) + fi)) 0 (-1) s2 = some (s3, none) := v1
      unfold mf_68_243
      rw [eix, v1']
      exact eR
    rw [E1, E2]
    obtain ⟨F1, F2, F3, ⟨out, o1, o2, o3⟩, ⟨k1, k2, k3, k4, k5, k6, k7⟩, hh⟩ := FF
    -- what is left alone
    have iB : iS S σ0 k μ (jP t2 49 16 (some p)) s := b3
    have i1 : iS S σ0 k μ tc s := iB.gf cg (by omega) (fun k q => q.elim) rfl rfl
    have i2 : iS S σ0 k μ tF s := i1.gf F1 (by omega) (fun k q => by omega) rfl rfl
    have i3 : iS S σ0 k μ tF sF := i2.rk (by rw [F2.1.1 88 (by unfold iRn; omega)]; exact d5.1 88 (by unfold iRn; omega)) (fun y hy => (F2.2 y hy).trans (d6 y hy))
    have r1 : rnF σ0 t tF := ((b2.rnF (fun k f q => by omega) (fun k q => by omega)).tr cR).tr (F1.rnF (fun k f q => by omega) (fun k q => q))
    have m1 : rnM s sF := rnM.tr d5 ⟨fun q r => F2.1.1 q (fun z => r (Or.inl z)), F2.1.2.1, F2.1.2.2.1, F2.1.2.2.2⟩
    have h480 : kI tF 48 0 = 1 := by rw [F1.1 48 0 (by omega), c48]; exact b9
    have h68 : sF.1 68 = 1 := by rw [F2.1.1 68 (by unfold iRn; omega)]; exact d3
    rcases hh with ⟨⟨kq, kq1, kq2, kq3⟩, u2, w2', hp2⟩ | ⟨z66, u2, w2', f, sh, x, hp2, hu2, hf2, h48f, h498, ⟨hx, hwx⟩, hrx, hsh⟩
    · have hk6 : kI tF 48 6 = Int32.ofNat kq := by rw [k1]; exact kq3
      have nz : ¬ Int32.ofNat kq = 0 := fun q => by have := ofNat_inj (b := 0) (by omega) (by omega) q; omega
      refine ⟨tF, sF, Int32.ofNat kq, ?_, ?_, Or.inr ⟨S, out, i3, hp2.iH, F3, o1, o2, o3, ⟨by rw [h480, h68], fun _ => ⟨k1, k2, k3, k4, k5, k6, k7⟩⟩, r1, m1⟩⟩
      · unfold cf_6_110 cf_234 cf_234_0
        rw [hk6]
        show cf_6_117 N X a2 (Int32.ofNat kq) tF = _
        unfold cf_6_117
        rw [if_pos nz]
        unfold cf_6_125 cf_234 cf_234_0
        rw [hk6]
        rfl
      · have ng : ¬ sF.1 66 ≤ 0 := by
          rw [kq3]
          exact fun q => by have := (i32le (b := 0) (by omega) (by omega)).mp q; omega
        unfold mf_68_320
        rw [if_neg ng]
        unfold mf_68_327
        rw [kq3]
    · have hsW : ∀ j, j < 8 → ∀ y, (if a2 = Int32.ofNat j then some x else sh j) = some y → wfN y ∧ y.1 ≤ 4 := fun j hj y q => by
        by_cases c : a2 = Int32.ofNat j
        · rw [if_pos c] at q
          cases q
          exact hwx
        · rw [if_neg c] at q
          exact (hsh j hj).2.2.2.2 y q
      have key : ∃ S' : Nat → Option (Th 4), ∀ j, j < 8 → (∀ z, S' j = some z → wfT 4 z) ∧ serO (S' j) = serNo (if a2 = Int32.ofNat j then some x else sh j) ∧ lfR (if a2 = Int32.ofNat j then some x else sh j) (S' j) := by
        refine ⟨fun j => if hj : j < 8 then Classical.choose (lfO (hsW j hj)) else none, fun j hj => ?_⟩
        show (∀ z, (if hj : j < 8 then _ else none) = some z → wfT 4 z) ∧ serO (if hj : j < 8 then _ else none) = _ ∧ lfR _ (if hj : j < 8 then _ else none)
        rw [dif_pos hj]
        exact Classical.choose_spec (lfO (hsW j hj))
      obtain ⟨S', hS'⟩ := key
      have hBF : kN tF + 28000 < zz_out := by
        have h1 := r1.2.2.2.2.2.2.1
        have h2 := pot_le (t := tF) (by have := o1.2.2.2.2.2.2; exact this.2)
        have h3 := gS_le (t := tF) i3.2.2.2.2.1.1
        have h4 := gf.gS (σ := σ0) F1 (fun k q => by omega)
        have h5 := gf.gS (σ := σ0) cg (fun k q => q.elim)
        have h6 := gf.gS (σ := σ0) b2 (fun k q => by omega)
        have h7 : gS (jP t2 49 16 (some p)) σ0 = gS t2 σ0 := rfl
        omega
      have F3' := F3
      obtain ⟨m10, ⟨m2, m3⟩, -⟩ := F3
      obtain ⟨t', j1, ⟨uu, ww, j2⟩, j3, j4, j5⟩ := c_keep (N := N) (X := X) (x := x) (x1 := a2) (sh := sh) (sh' := fun j => if a2 = Int32.ofNat j then some x else sh j) (S' := S') (by omega) i3 hp2 m10.2.2.1 m10.2.2.2.1 m2 h498 hx hwx hx2 (fun _ _ => rfl) (fun j hj => (hS' j hj).2.1) (fun j hj => ⟨(hsh j hj).1, (hsh j hj).2.1, (hsh j hj).2.2.1, (hsh j hj).2.2.2.2⟩) hBF
      obtain ⟨s', l1, l2, l3, l4⟩ := r_fin (N := N) (x := x) (x2 := a2) (sh := sh) (sh' := fun j => if a2 = Int32.ofNat j then some x else sh j) (S' := S') (f := f) (by omega) hf2 z66 hx2 (fun _ _ => rfl) hsW (fun j hj => (hS' j hj).2.2) (fun j hj => (hS' j hj).1) (fun j hj => (hsh j hj).2.2.2.1) hrx
      have k48 : ∀ f, kI t' 48 f = kI tF 48 f := fun f => j5.1.1 48 f (fun q => q)
      have hk6 : kI tF 48 6 = Int32.ofNat 0 := by rw [k1]; exact z66
      have hO' : cOut t' out := j5.out o1 j2.2.2.2.2.2.2.2.2
      have si : ∀ q, s'.1 q = sF.1 q := fun q => l3.1 q (fun z => z)
      refine ⟨t', s', 0, ?_, l1, Or.inr ⟨_, out, i3.all j3 j4 j5 (si 88) l4 l2 (fun j hj => (hS' j hj).1), j2.iH, j5.ok F3', hO', ⟨by rw [si 87]; exact o2.1, fun i hi h6 => by rw [l3.2.2.1 86 (by omega)]; exact o2.2 i hi h6⟩, o3, ⟨by rw [k48, si 68, h480, h68], fun _ => ?_⟩, r1.tr j5.rnF, rnM.tr m1 ⟨fun q r => si q, fun q r => l3.2.1 q (fun z => z), fun q r => l3.2.2.1 q (by unfold aRn at r; omega), l3.2.2.2⟩⟩⟩
      · unfold cf_6_110 cf_234 cf_234_0
        rw [hk6]
        show cf_6_117 N X a2 (Int32.ofNat 0) tF = _
        unfold cf_6_117
        rw [if_neg (fun q => q rfl)]
        unfold cf_6_120
        rw [j1]
        show cf_6_125 N X t' = _
        unfold cf_6_125 cf_234 cf_234_0
        rw [k48, hk6]
        rfl
      · rw [k48, k48, k48, k48, k48, k48, k48, si 66, si 67, si 65, si 60, si 62, si 63, si 64]
        exact ⟨k1, k2, k3, k4, k5, k6, k7⟩
end PRN
end
-- ### 98zzze.pure.lean.txt
section
/-! ===== PURE: the whole (1): what stands between calls ===== -/
/-- what is left alone, as far as other things ask -/
def kfO (eI : Nat → Nat → Prop) (eA : Nat → Prop) (t t' : cS) : Prop := (∀ k f, ¬ eI k f → kI t' k f = kI t k f) ∧ ∀ k, k < 2000000 → ¬ eA k → k ≠ 111 → kA t' k = kA t k ∧ kB t' k = kB t k
/-- programs, faults -/
def O1 (t : cS) (s : mS) (p p' e : Nat) : Prop := iF t s ∧ LI t s p p' e ∧ PGI t s p e ∧ (s.1 13 = 0 → s.1 14 = 0)
/-- the room -/
def rmQ (n : Nat) (t : cS) (σ0 : Nat) : Prop := kN t ≤ 111 + 40 * (512 - n) + (pot t + potL t + gA t σ0) ∧ kQ t ≤ 400000 + 9700 * (512 - n) + (poq t + poqL t + 2 * gA t σ0)
def InvR (n : Nat) (t : cS) (s : mS) : Prop := n ≤ 512 ∧ ∃ (S : Nat → Option (Th 4)) (σ0 k : Nat) (μ : Nat → Nat) (p p' e : Nat) (l : List Int32), (iA t s ∧ O1 t s p p' e) ∧ iT t s ∧ iS S σ0 k μ t s ∧ (cOut t l ∧ rOut s l ∧ l.length ≤ 200000000 + 9000 * (512 - n)) ∧ (iH t ∧ mOK t) ∧ rmQ n t σ0
section INV
variable {eI : Nat → Nat → Prop} {eA mI mL mA mB : Nat → Prop} {t t' : cS} {s s' : mS} {p p' e σ0 k n : Nat} {μ : Nat → Nat} {S : Nat → Option (Th 4)} {l : List Int32}
theorem iA.kp0 (h : iA t s) (g : kfO eI eA t t') (m : mfr mI mL mA mB s s') (h1 : ¬ eI 0 1) (h2 : ¬ eA 1) (h3 : ¬ mI 3) (h4 : ¬ mA 2) : iA t' s' := by
  obtain ⟨n, L, ⟨b1, b2, b3, b4, b5⟩, h⟩ := h
  have e := (g.2 1 (by omega) h2 (by omega)).1
  exact ⟨n, L, ⟨by rw [g.1 0 1 h1]; exact b1, by rw [m.1 3 h3]; exact b2, by rw [e]; exact b3, fun i hi => by rw [e, m.2.2.1 2 h4]; exact b4 i hi, fun i => by rw [e]; exact b5 i⟩, h⟩
theorem iT.kp0 (h : iT t s) (g : kfO eI eA t t') (m : mfr mI mL mA mB s s') (h1 : ∀ f, ¬ eI 48 f) (h2 : ∀ q, 60 ≤ q → q ≤ 68 → ¬ mI q) : iT t' s' := by
  unfold iT at h ⊢
  rw [g.1 48 0 (h1 0), g.1 48 6 (h1 6), g.1 48 7 (h1 7), g.1 48 8 (h1 8), g.1 48 2 (h1 2), g.1 48 3 (h1 3), g.1 48 4 (h1 4), g.1 48 5 (h1 5), m.1 68 (h2 68 (by omega) (by omega)), m.1 66 (h2 66 (by omega) (by omega)), m.1 67 (h2 67 (by omega) (by omega)), m.1 65 (h2 65 (by omega) (by omega)), m.1 60 (h2 60 (by omega) (by omega)), m.1 62 (h2 62 (by omega) (by omega)), m.1 63 (h2 63 (by omega) (by omega)), m.1 64 (h2 64 (by omega) (by omega))]
  exact h
theorem SZf.kp0 {q : Nat} (h : SZf q t) (hq : q = 12 ∨ q = 21) (g : kfO eI eA t t') (h1 : ∀ k, 4 ≤ k → k ≤ 29 → ¬ eA k) : SZf q t' := by
  have e := fun k a b => g.2 k (by omega) (h1 k a b) (by omega)
  unfold SZf SZ at h ⊢
  rw [(e 4 (by omega) (by omega)).1, (e 5 (by omega) (by omega)).1, (e 6 (by omega) (by omega)).2, (e 8 (by omega) (by omega)).1, (e 9 (by omega) (by omega)).2, (e 10 (by omega) (by omega)).1, (e 11 (by omega) (by omega)).1, (e 7 (by omega) (by omega)).2, (e (q + 1) (by omega) (by omega)).1, (e (q + 2) (by omega) (by omega)).1, (e (q + 3) (by omega) (by omega)).1, (e (q + 4) (by omega) (by omega)).2, (e (q + 5) (by omega) (by omega)).1, (e (q + 6) (by omega) (by omega)).1, (e (q + 7) (by omega) (by omega)).1, (e (q + 8) (by omega) (by omega)).1]
  exact h
theorem O1.kp0 (h : O1 t s p p' e) (hP : kP t' 0 3 = kP t 0 3 ∧ kP t' 0 4 = kP t 0 4) (g : kfO eI eA t t') (m : mfr mI mL mA mB s s') (h1 : ¬ eI 0 5 ∧ ¬ eI 0 6) (h2 : ∀ f, ¬ eI 12 f ∧ ¬ eI 21 f) (h3 : ∀ k, 4 ≤ k → k ≤ 29 → ¬ eA k) (h4 : ∀ q, q = 12 ∨ q = 13 ∨ q = 14 ∨ q = 44 ∨ q = 45 ∨ q = 46 → ¬ mI q) (h5 : ∀ q, q = 1 ∨ (17 ≤ q ∧ q ≤ 43) → ¬ mA q) (h6 : ∀ q, ¬ mB q) : O1 t' s' p p' e := by
  obtain ⟨⟨f1, f2⟩, ⟨l1, l2, l3, l4, l5, l6, l7, l8, l9, l10⟩, hG, h13⟩ := h
  have hpp : p = 12 ∨ p = 21 := by omega
  refine ⟨⟨?_, ?_⟩, ⟨by rw [hP.1]; exact l1, by rw [hP.2]; exact l2, l3, l4.kp0 (Or.inl rfl) g h3, l5.kp0 (Or.inr rfl) g h3, fun w hw => by rw [m.2.2.2 0 (h6 0)]; exact l6 w hw, fun w hw => by rw [m.2.2.1 1 (h5 1 (Or.inl rfl))]; exact l7 w hw, Kd.kp (m.1 44 (h4 44 (by omega))) (fun q hq => m.2.2.1 q (h5 q (by omega))) (m.2.2.2 42 (h6 42)) l8, by rw [m.1 12 (h4 12 (by omega))]; exact l9, l10⟩, hG.kp hP.1 (fun f => g.1 p f (by rcases hpp with z | z <;> subst z; exact (h2 f).1; exact (h2 f).2)) (fun j j1 j2 => g.2 (p + j) (by omega) (h3 (p + j) (by omega) (by omega)) (by omega)) (m.1 12 (h4 12 (by omega))) (m.1 14 (h4 14 (by omega))) (fun q y r _ _ => by rw [m.2.2.1 q (h5 q (by omega))]) (fun q y r _ _ => by rw [m.2.2.1 q (h5 q (by omega))]), ?_⟩
  · rw [g.1 0 5 h1.1, m.1 45 (h4 45 (by omega))]; exact f1
  · rw [g.1 0 6 h1.2, m.1 46 (h4 46 (by omega))]; exact f2
  · rw [m.1 13 (h4 13 (by omega)), m.1 14 (h4 14 (by omega))]; exact h13
theorem rmK_of (h : kN t + 200 < zz_out) (h46 : (kA t 46).1 ≤ 600) : rmK t := ⟨by omega, h46⟩
theorem cOut.kp0 (h : cOut t l) (g : kfO eI eA t t') (h1 : ¬ eI 45 1) (h2 : ¬ eA 46 ∧ ¬ eA 47) (hN : kN t' + 200 < zz_out) : cOut t' l := by
  have e46 := (g.2 46 (by omega) h2.1 (by omega)).1
  have e47 := (g.2 47 (by omega) h2.2 (by omega)).1
  obtain ⟨z1, z2, z3, z4, z5, z6, z7⟩ := h
  exact ⟨by rw [g.1 45 1 h1]; exact z1, by rw [e46]; exact z2, by rw [e46]; exact z3, by rw [e46]; exact z4, by rw [e46]; exact z5, by rw [e47]; exact z6, rmK_of hN (by rw [e46]; exact z7.2)⟩
theorem rOut.kp0 (h : rOut s l) (m : mfr mI mL mA mB s s') (h1 : ¬ mI 87) (h2 : ¬ mA 86) : rOut s' l := by
  unfold rOut at h ⊢
  rw [m.1 87 h1, m.2.2.1 86 h2]
  exact h
theorem iH.kp0 (h : iH t) (g : kfO eI eA t t') (h2 : ¬ eA 43 ∧ ¬ eA 44 ∧ ¬ eA 46) (hN : kN t' + 200 < zz_out) : iH t' := by
  have e43 := (g.2 43 (by omega) h2.1 (by omega)).2
  have e44 := (g.2 44 (by omega) h2.2.1 (by omega)).2
  have e46 := (g.2 46 (by omega) h2.2.2 (by omega)).1
  obtain ⟨q1, q2, q3, q4, q5⟩ := h
  exact ⟨by rw [e44]; exact q1, by rw [e43]; exact q2, by rw [e43]; exact q3, by rw [e44]; exact q4, rmK_of hN (by rw [e46]; exact q5.2)⟩
theorem mOK.kp0 (h : mOK t) (g : kfO eI eA t t') (h2 : ∀ k, 50 ≤ k → k ≤ 60 → ¬ eA k) : mOK t' := by
  have e := fun k a b => g.2 k (by omega) (h2 k a b) (by omega)
  unfold mOK at h ⊢
  rw [(e 53 (by omega) (by omega)).1, (e 54 (by omega) (by omega)).1, (e 50 (by omega) (by omega)).2, (e 51 (by omega) (by omega)).1, (e 60 (by omega) (by omega)).1, (e 52 (by omega) (by omega)).2, (e 55 (by omega) (by omega)).1, (e 56 (by omega) (by omega)).1, (e 57 (by omega) (by omega)).1]
  exact h
/-- the potentials -/
theorem pot.kp0 (g : kfO eI eA t t') (h2 : ∀ k, 43 ≤ k → k ≤ 60 → ¬ eA k) : pot t' = pot t ∧ poq t' = poq t := by
  have e := fun q a b => g.2 q (by omega) (h2 q a b) (by omega)
  unfold Jvm.Pilot.CTallySlateLaw_law_r9425_93dbe7.pot Jvm.Pilot.CTallySlateLaw_law_r9425_93dbe7.poq
  rw [(e 43 (by omega) (by omega)).2, (e 44 (by omega) (by omega)).2, (e 46 (by omega) (by omega)).1, (e 52 (by omega) (by omega)).2, (e 55 (by omega) (by omega)).1, (e 56 (by omega) (by omega)).1, (e 57 (by omega) (by omega)).1]
  exact ⟨rfl, rfl⟩
theorem potL.kp0 (g : kfO eI eA t t') (h2 : ∀ k, 4 ≤ k → k ≤ 24 → ¬ eA k) : potL t' = potL t ∧ poqL t' = poqL t := by
  have e := fun q a b => g.2 q (by omega) (h2 q a b) (by omega)
  unfold Jvm.Pilot.CTallySlateLaw_law_r9425_93dbe7.potL Jvm.Pilot.CTallySlateLaw_law_r9425_93dbe7.poqL
  rw [(e 4 (by omega) (by omega)).1, (e 5 (by omega) (by omega)).1, (e 6 (by omega) (by omega)).2, (e 8 (by omega) (by omega)).1, (e 9 (by omega) (by omega)).2, (e 10 (by omega) (by omega)).1, (e 11 (by omega) (by omega)).1, (e 13 (by omega) (by omega)).1, (e 14 (by omega) (by omega)).1, (e 15 (by omega) (by omega)).1, (e 22 (by omega) (by omega)).1, (e 23 (by omega) (by omega)).1, (e 24 (by omega) (by omega)).1]
  exact ⟨rfl, rfl⟩
/-- rows of shelves that stand -/
theorem gS_eq {σ : Nat} (h : ∀ j, j < 8 → kA t' (2000000 + 20 * σ + 1 + 1 + j) = kA t (2000000 + 20 * σ + 1 + 1 + j)) : gS t' σ = gS t σ := by
  unfold gS
  refine sm_congr (fun i _ h2 => ?_)
  show (kA t' (2000000 + 20 * σ + 1 + 1 + i)).1 = (kA t (2000000 + 20 * σ + 1 + 1 + i)).1
  rw [h i (by omega)]
theorem gA_ch (hM : kM t' = kM t) (h : ∀ m, m < 6 → ∀ σ, kM t m = some σ → gS t' σ = gS t σ) : gA t' σ0 + gS t σ0 = gA t σ0 + gS t' σ0 := by
  unfold gA
  have e : sm (fun m => gO t' (kM t' m)) 0 6 = sm (fun m => gO t (kM t m)) 0 6 := by
    refine sm_congr (fun i _ h2 => ?_)
    show gO t' (kM t' i) = gO t (kM t i)
    rw [hM]
    cases hk : kM t i with
    | none => rfl
    | some σ => exact h i (by omega) σ hk
  rw [e]
  omega
theorem gA_eq (hM : kM t' = kM t) (h : ∀ k, 2000000 ≤ k → kA t' k = kA t k) : gA t' σ0 = gA t σ0 := by
  have h1 := gA_ch (t := t) (t' := t') (σ0 := σ0) hM (fun m _ σ _ => gS_eq (fun j hj => h _ (by omega)))
  have h2 : gS t' σ0 = gS t σ0 := gS_eq (fun j hj => h _ (by omega))
  omega
theorem gA_le (h : iS S σ0 k μ t s) : gA t σ0 ≤ 168000 := by
  have h0 := gS_le h.2.2.2.2.1.1
  have key : ∀ c, c ≤ 6 → sm (fun m => gO t (kM t m)) 0 c ≤ 24000 * c := by
    intro c
    induction c with
    | zero => intro _; exact Nat.le_refl _
    | succ c ih =>
      intro hc
      have h1 := ih (by omega)
      show sm _ 0 c + gO t (kM t (0 + c)) ≤ _
      have h2 : gO t (kM t (0 + c)) ≤ 24000 := by
        cases hk : kM t (0 + c) with
        | none => exact Nat.zero_le _
        | some σ => exact gS_le (h.2.2.2.2.2.2.2.1 (0 + c) (by omega) σ hk).1.1
      omega
  have := key 6 (Nat.le_refl _)
  unfold gA
  omega
theorem potL_le : potL t ≤ 247 := by
  unfold potL
  have a1 := lgc_le (kA t 4).1
  have a2 := lgc_le (kA t 5).1
  have a3 := lgc_le (kB t 6).1
  have a4 := lgc_le (kA t 8).1
  have a5 := lgc_le (kB t 9).1
  have a6 := lgc_le (kA t 10).1
  have a7 := lgc_le (kA t 11).1
  have a8 := lgc_le (kA t 13).1
  have a9 := lgc_le (kA t 14).1
  have b1 := lgc_le (kA t 15).1
  have b2 := lgc_le (kA t 22).1
  have b3 := lgc_le (kA t 23).1
  have b4 := lgc_le (kA t 24).1
  omega
/-- there is room -/
theorem InvR.bd (h : InvR n t s) : kN t ≤ 600000 ∧ kQ t ≤ 7290000 := by
  obtain ⟨hn, S, σ0, k, μ, p, p', e, l, ⟨-, -, hL, -⟩, -, hS, -, ⟨hH, hM⟩, r1, r2⟩ := h
  have h1 := gA_le hS
  have h2 := pot_le (t := t) hH.2.2.2.2.2
  have h3 := potL_le (t := t)
  have h46 : (kA t 46).1 ≤ 600 := hH.2.2.2.2.2
  obtain ⟨q1, q2, q3, q4, -⟩ := hH
  obtain ⟨-, ⟨-, m2⟩, m3, m4, -, m5⟩ := hM
  have hq : poq t ≤ 1060000 := by
    unfold poq
    omega
  obtain ⟨-, -, -, ⟨⟨z1, z2, z3, -⟩, -⟩, ⟨⟨-, -, z4, -⟩, -⟩, -⟩ := hL
  have hql : poqL t ≤ 338000 := by
    unfold poqL
    obtain ⟨y1, y2, y3, y4⟩ := z1
    obtain ⟨y5, y6, y7, y8, y9⟩ := z2
    obtain ⟨x1, x2, x3, x4⟩ := z3
    obtain ⟨w1, w2, w3, w4⟩ := z4
    have x1 : (kA t 14).1 = (kA t 13).1 := x1
    have x2 : (kA t 15).1 = (kA t 13).1 := x2
    have x4 : (kA t 13).1 < 13000 := x4
    have w1 : (kA t 23).1 = (kA t 22).1 := w1
    have w2 : (kA t 24).1 = (kA t 22).1 := w2
    have w4 : (kA t 22).1 < 13000 := w4
    omega
  have e1 : 40 * (512 - n) ≤ 20480 := by omega
  have e2 : 9700 * (512 - n) ≤ 4966400 := by omega
  exact ⟨by omega, by omega⟩
/-- a call that changes nothing -/
theorem InvR.dn (h : InvR (n + 1) t s) : InvR n t s := by
  obtain ⟨hn, S, σ0, k, μ, p, p', e, l, h1, h2, h3, ⟨h4, h5, h6⟩, h7, r1, r2⟩ := h
  refine ⟨by omega, S, σ0, k, μ, p, p', e, l, h1, h2, h3, ⟨h4, h5, by omega⟩, h7, ?_, ?_⟩
  · omega
  · omega
theorem iG_of (h : PGI t s p e) : ∃ m, iG t s p e m := by
  obtain ⟨code, Fs, ⟨g1, g2, g3, g4, g5⟩, g6, ⟨c1, c2, c3, c4, c5, c6, c7, c8, c9⟩, g8, g9, g10⟩ := h
  refine ⟨Fs.length, g1, g2, c1, g5, c2, g3, g4, c6, c7, c8, fun f hf => ?_⟩
  obtain ⟨d1, d2, d3, d4, d5⟩ := c9 f hf
  obtain ⟨r1, r2, r3, r4⟩ := g9 f hf
  have efb : fb0 (1 - e) + f = 12 * e + f := by unfold fb0; omega
  rw [efb] at r2 r3 r4
  exact ⟨d3.trans r2.symm, d4.trans r3.symm, d5.trans r4.symm⟩
theorem iO_of (h1 : cOut t l) (h2 : rOut s l) (hl : l.length < 2147483648) : iO t s := by
  obtain ⟨z1, z2, z3, z4, z5, z6, z7⟩ := h1
  exact ⟨l.length, hl, h2.1, z1, fun i hi h6 => (z2 i hi h6).trans (h2.2 i hi h6).symm, by omega, z7.2⟩
end INV
end
-- ### 98zzzf.pure.lean.txt
section
/-! ===== PURE: the whole (2): every call ===== -/
section STP
variable {N : Nat} {X : Nat → Option zz_C} {eI : Nat → Nat → Prop} {eA mI mL mA mB cA cB : Nat → Prop} {t t' : cS} {s s' : mS} {p p' e σ0 k n j c : Nat} {μ : Nat → Nat} {S : Nat → Option (Th 4)} {l : List Int32} {a1 a2 a3 a4 a5 : Int32}
theorem zo : zz_out = 1048576 := rfl
theorem kfr.O (h : kfr eI cA cB t t') : kfO eI (fun k => cA k ∨ cB k) t t' := ⟨h.1, fun k _ r1 r2 => ⟨h.2.2.2.1 k (fun q => r1 (Or.inl q)) r2, h.2.2.2.2.1 k (fun q => r1 (Or.inr q)) r2⟩⟩
theorem gf.O {E : Nat → Nat → Prop} {A : Nat → Prop} (h : gf E A t t') : kfO E A t t' := ⟨h.1, fun k _ r1 r2 => ⟨(h.2.2.2.1 k r1 r2).1, (h.2.2.2.1 k r1 r2).2.1⟩⟩
theorem lfr.O (h : lfr t t') : kfO (fun k f => 2000000 ≤ k ∨ (k = 0 ∧ f = 9)) (fun _ => False) t t' := ⟨fun k f r => h.1 k f (by omega) (fun q => r (Or.inr q)), fun k hk _ r2 => ⟨h.2.2.2.1 k hk r2, h.2.2.2.2.1 k hk r2⟩⟩
theorem iS.kf (h : iS S σ0 k μ t s) (h1 : kP t' 0 7 = kP t 0 7) (h2 : kI t' 0 9 = kI t 0 9) (hM : kM t' = kM t) (hH : kH t' = kH t) (hN : kN t ≤ kN t') (hA : ∀ k, 2000000 ≤ k → kA t' k = kA t k) (e1 : s'.1 88 = s.1 88) (e2 : s'.2.2.1 47 = s.2.2.1 47) : iS S σ0 k μ t' s' := by
  obtain ⟨i1, i2, i3, i4, ⟨i5, i50⟩, i6, i7, i8, i9⟩ := h
  have s0 : ∀ {σ}, cS0 t σ → cS0 t' σ := fun q => ⟨by rw [hH]; exact q.1, by rw [hA _ (by omega)]; exact q.2.1, fun j hj => by rw [hA _ (by omega)]; exact q.2.2 j hj⟩
  have s1 : ∀ {σ j ξ}, cS1 t σ j ξ → cS1 t' σ j ξ := fun {σ j ξ} q => by
    unfold cS1 at q ⊢
    rw [hA (2000000 + 20 * σ + 10) (by omega), hA (2000000 + 20 * σ + 1 + 1 + j) (by omega)]
    exact q
  refine ⟨i1, by rw [h1]; exact i2, by rw [h2]; exact i3, by rw [e1]; exact i4, ⟨s0 i5, by omega⟩, fun j hj => ⟨s1 (i6 j hj).1, by rw [e2]; exact (i6 j hj).2⟩, i7, fun m hm σ q => ?_, fun m hm => ?_⟩
  · rw [hM] at q
    obtain ⟨⟨b1, b2⟩, b3, b4⟩ := i8 m hm σ q
    exact ⟨⟨s0 b1, by omega⟩, b3, fun m' σ' hm' q' => by rw [hM] at q'; exact b4 m' σ' hm' q'⟩
  · obtain ⟨b1, b2⟩ := i9 m hm
    exact ⟨by rw [hM]; exact b1, fun j hj => ⟨s1 (b2 j hj).1, by rw [e2]; exact (b2 j hj).2⟩⟩
/-- one shelf's row has grown -/
theorem fSh.gA (h : iS S σ0 k μ t s) (f : fSh σ0 j t t') (r : rSh σ0 j c t t') (hj : j < 8) : gA t σ0 ≤ gA t' σ0 ∧ kN t' ≤ kN t + c ∧ kQ t' + 2 * gA t σ0 ≤ kQ t + 2 * gA t' σ0 := by
  obtain ⟨⟨k1, k2, k3, k4, k5, k6, k7, k8⟩, -, -⟩ := f
  obtain ⟨r1, r2, r3⟩ := r
  have e : gS t' σ0 + (kA t (2000000 + 20 * σ0 + 1 + 1 + j)).1 = gS t σ0 + (kA t' (2000000 + 20 * σ0 + 1 + 1 + j)).1 := by
    unfold gS
    exact sm_one (f := fun j => (kA t (2000000 + 20 * σ0 + 1 + 1 + j)).1) (g := fun j => (kA t' (2000000 + 20 * σ0 + 1 + 1 + j)).1) hj (fun i h8 hi => by
      show (kA t' (2000000 + 20 * σ0 + 1 + 1 + i)).1 = (kA t (2000000 + 20 * σ0 + 1 + 1 + i)).1
      rw [k4 _ (by omega) (by omega)])
  have g := gA_ch (t := t) (t' := t') (σ0 := σ0) k6 (fun m hm σ q => by
    have hne := (h.2.2.2.2.2.2.2.1 m hm σ q).2.1
    exact gS_eq (fun i hi => k4 _ (by omega) (by omega)))
  exact ⟨by omega, r1, by omega⟩
theorem InvR.shelf {S' : Nat → Option (Th 4)} (hn : n + 1 ≤ 512) (hA : iA t s) (hO1 : O1 t s p p' e) (hT : iT t s) (hS : iS S σ0 k μ t s) (hc' : cOut t l) (hr : rOut s l) (hl : l.length ≤ 200000000 + 9000 * (512 - (n + 1))) (hH : iH t) (hM : mOK t) (hq : rmQ (n + 1) t σ0) (hkN : kN t ≤ 600000) (hc : c ≤ 3) (hS' : iS S' σ0 k μ t' s') (hf : t' = t ∨ ∃ j, j < 8 ∧ fSh σ0 j t t' ∧ rSh σ0 j c t t') (hm : mfr (fun _ => False) (fun _ => False) (fun q => q = 47) (fun _ => False) s s') : InvR n t' s' := by
  obtain ⟨r1, r2⟩ := hq
  have key : ∃ eI : Nat → Nat → Prop, ∃ eA : Nat → Prop, kfO eI eA t t' ∧ (∀ k f, ¬ eI k f) ∧ (∀ k, k < 2000000 → ¬ eA k) ∧ kP t' = kP t ∧ gA t σ0 ≤ gA t' σ0 ∧ kN t' ≤ kN t + 3 ∧ kQ t' + 2 * gA t σ0 ≤ kQ t + 2 * gA t' σ0 := by
    rcases hf with e | ⟨j, hj, f, r⟩
    · subst e
      exact ⟨fun _ _ => False, fun _ => False, ⟨fun _ _ _ => rfl, fun _ _ _ _ => ⟨rfl, rfl⟩⟩, fun _ _ q => q, fun _ _ q => q, rfl, Nat.le_refl _, by omega, Nat.le_refl _⟩
    · obtain ⟨g1, g2, g3⟩ := fSh.gA hS f r hj
      exact ⟨_, _, f.1.O, fun _ _ q => q, fun k hk q => by omega, f.1.2.2.1, g1, by omega, g3⟩
  obtain ⟨eI, eA, g, hE, hA2, hP, g1, g2, g3⟩ := key
  have z := zo
  have hN' : kN t' + 200 < zz_out := by omega
  obtain ⟨p1, p2⟩ := pot.kp0 g (fun k _ _ => hA2 k (by omega))
  obtain ⟨p3, p4⟩ := potL.kp0 g (fun k _ _ => hA2 k (by omega))
  refine ⟨by omega, S', σ0, k, μ, p, p', e, l, ⟨hA.kp0 g hm (hE _ _) (hA2 _ (by omega)) (fun q => q) (by decide), hO1.kp0 ⟨by rw [hP], by rw [hP]⟩ g hm ⟨hE _ _, hE _ _⟩ (fun f => ⟨hE _ _, hE _ _⟩) (fun k _ _ => hA2 k (by omega)) (fun q _ z => z) (fun q r z => by omega) (fun q z => z)⟩, hT.kp0 g hm (fun f => hE _ _) (fun q _ _ z => z), hS', ⟨hc'.kp0 g (hE _ _) ⟨hA2 _ (by omega), hA2 _ (by omega)⟩ hN', hr.kp0 hm (fun z => z) (by decide), by omega⟩, ⟨hH.kp0 g ⟨hA2 _ (by omega), hA2 _ (by omega), hA2 _ (by omega)⟩ hN', hM.kp0 g (fun k _ _ => hA2 k (by omega))⟩, ?_, ?_⟩
  · rw [p1, p3]; omega
  · rw [p2, p4]; omega
theorem lw_step (hN : 700000 ≤ N) (hX : oX N X) (hY : oY X) (hZ : oZ X) (hI : InvR (n + 1) t s) (o : Nat) : ∃ t' s', lwC N X o a1 a2 a3 a4 a5 t s t' s' ∧ InvR n t' s' := by
  have hI' := hI
  obtain ⟨hkN, hkQ⟩ := hI.bd
  have z := zo
  obtain ⟨hn, S, σ0, k, μ, p, p', e, l, ⟨hA, hO1⟩, hT, hS, ⟨hc, hr, hl⟩, ⟨hH, hM⟩, hq⟩ := hI'
  have hq' := hq
  obtain ⟨r1, r2⟩ := hq'
  match o with
  | 0 =>
    obtain ⟨t', s', v, q1, q2, q3, q4, q5, q6, q7⟩ := p_feed (N := N) (X := X) hA (by omega) (by omega) a1 a2 a3 a4 a5
    have g := q4.O
    have hP : kP t' = kP t := q4.2.2.1
    have eM : kM t' = kM t := q4.2.2.2.2.2.1
    have eH : kH t' = kH t := q4.2.2.2.2.2.2.1
    have eN : kN t ≤ kN t' := q4.2.2.2.2.2.2.2
    have eg : gA t' σ0 = gA t σ0 := gA_eq eM (fun k hk => q4.2.2.2.1 k (by omega) (by omega))
    obtain ⟨p1, p2⟩ := pot.kp0 g (fun k _ _ q => by omega)
    obtain ⟨p3, p4⟩ := potL.kp0 g (fun k _ _ q => by omega)
    refine ⟨t', s', ⟨v, q1, q2⟩, by omega, S, σ0, k, μ, p, p', e, l, ⟨q3, hO1.kp0 ⟨by rw [hP], by rw [hP]⟩ g q5 ⟨by omega, by omega⟩ (fun f => ⟨by omega, by omega⟩) (fun k _ _ q => by omega) (fun q _ z => by omega) (fun q _ z => by omega) (fun q z => z)⟩, hT.kp0 g q5 (fun f => by omega) (fun q _ _ z => by omega), hS.kf (by rw [hP]) (q4.1 0 9 (by omega)) eM eH eN (fun k hk => q4.2.2.2.1 k (by omega) (by omega)) (q5.1 88 (by omega)) (q5.2.2.1 47 (by omega)), ⟨hc.kp0 g (by omega) ⟨by omega, by omega⟩ (by omega), hr.kp0 q5 (by omega) (by omega), by omega⟩, ⟨hH.kp0 g ⟨by omega, by omega, by omega⟩ (by omega), hM.kp0 g (fun k _ _ q => by omega)⟩, ?_, ?_⟩
    · rw [p1, p3, eg]; omega
    · rw [p2, p4, eg]; omega
  | 1 =>
    have hrm : rmG t := by
      show kN t + 400 < zz_out + potL t
      omega
    obtain ⟨t', s', v, p1', p2', e1, q1, q2, q3, q4, q5, q6, q7, q8, q9⟩ := p_load (N := N) (X := X) (a := a1) (by omega) hX hY hZ hA hO1.2.1 hO1.2.2.1 hO1.1 hrm
    obtain ⟨w1, w2, w3, w4, w5, w6, w7, w8⟩ := q7
    obtain ⟨m1, m2, m3, m4⟩ := q8
    have g : kfO (fun k f => (k = 0 ∧ (f = 1 ∨ f = 5 ∨ f = 6)) ∨ k = 2 ∨ k = 3 ∨ k = 12 ∨ k = 21) (fun k => 4 ≤ k ∧ k ≤ 29) t t' := ⟨fun k f r => w1 k f r, fun k _ r1 r2 => ⟨(w3 k r1 r2).1, (w3 k r1 r2).2.1⟩⟩
    have m : mfr (fun q => q = 3 ∨ q = 4 ∨ q = 5 ∨ q = 6 ∨ q = 8 ∨ q = 9 ∨ q = 10 ∨ q = 11 ∨ q = 12 ∨ q = 13 ∨ q = 14 ∨ q = 15 ∨ q = 22 ∨ q = 28 ∨ q = 29 ∨ q = 37 ∨ q = 44 ∨ q = 45 ∨ q = 46) (fun q => q = 7) (fun q => 17 ≤ q ∧ q ≤ 43) (fun q => q = 16 ∨ q = 21 ∨ q = 33 ∨ q = 42) s s' := ⟨m1, m2, m3, m4⟩
    have eg : gA t' σ0 = gA t σ0 := gA_eq w4 (fun k hk => (w3 k (by omega) (by omega)).1)
    obtain ⟨p1, p2⟩ := pot.kp0 g (fun k _ _ q => by omega)
    have hkN' : kN t' + 200 < zz_out := by
      have := potL_le (t := t')
      omega
    refine ⟨t', s', ⟨v, q1, q2⟩, by omega, S, σ0, k, μ, p1', p2', e1, l, ⟨q3, q4, q5, q6, fun h0 => ?_⟩, hT.kp0 g m (fun f => by omega) (fun q _ _ z => by omega), hS.kf (w2 0 7 (by omega)) (w1 0 9 (by omega)) w4 w5 w6 (fun k hk => (w3 k (by omega) (by omega)).1) (m1 88 (by omega)) (m3 47 (by omega)), ⟨hc.kp0 g (by omega) ⟨by omega, by omega⟩ hkN', hr.kp0 m (by omega) (by omega), by omega⟩, ⟨hH.kp0 g ⟨by omega, by omega, by omega⟩ hkN', hM.kp0 g (fun k _ _ q => by omega)⟩, ?_, ?_⟩
    · rcases q9 with q | ⟨y1, y2⟩
      · rw [q] at h0
        exact absurd h0 (by decide)
      · rw [y2]
        exact hO1.2.2.2 (by rw [← y1]; exact h0)
    · rw [p1, eg]; omega
    · rw [p2, eg]; omega
  | 2 =>
    obtain ⟨v, q1, q2⟩ := p_fault (N := N) (X := X) (a := a1) hO1.1
    exact ⟨t, s, ⟨v, q1, q2⟩, hI.dn⟩
  | 3 =>
    obtain ⟨m, hm⟩ := iG_of hO1.2.2.1
    obtain ⟨v, q1, q2⟩ := p_function (N := N) (X := X) (a := a1) (b := a2) hm
    exact ⟨t, s, ⟨v, q1, q2⟩, hI.dn⟩
  | 4 =>
    obtain ⟨t', s', v, q1, q2, q3⟩ := p_run (N := N) (X := X) (a1 := a1) (a2 := a2) (a3 := a3) hN hX hY hZ hS hO1.2.2.1 hO1.2.2.2 hH hM hc (by omega)
    rcases q3 with ⟨y1, y2⟩ | ⟨S', l', y1, y2, y3, y4, y5, y6, y7, y8, y9⟩
    · subst y1 y2
      exact ⟨_, _, ⟨v, q1, q2⟩, hI.dn⟩
    · obtain ⟨f1, f2, f3, f4, f5, f6, f7, f8, f9⟩ := y8
      have g : kfO (fun k f => k = 42 ∨ k = 45 ∨ k = 48 ∨ k = 49 ∨ k = 58 ∨ k = 3000000 + σ0) (fun k => 43 ≤ k ∧ k ≤ 60) t t' := ⟨f1, fun k hk r1 r2 => f3 k r1 (by omega) r2⟩
      have m : mfr (fun q => iRn q ∨ q = 68) (fun q => q = 89) aRn (fun _ => False) s s' := y9
      have eg := gA_ch (t := t) (t' := t') (σ0 := σ0) f4 (fun m hm σ q => by
        have hne := (hS.2.2.2.2.2.2.2.1 m hm σ q).2.1
        exact gS_eq (fun i hi => (f3 _ (by omega) (by omega) (by omega)).1))
      obtain ⟨p3, p4⟩ := potL.kp0 g (fun k _ _ q => by omega)
      refine ⟨t', s', ⟨v, q1, q2⟩, by omega, S', σ0, k, μ, p, p', e, l', ⟨hA.kp0 g m (by omega) (by omega) (by unfold iRn; omega) (by unfold aRn; omega), hO1.kp0 ⟨f2 0 3 (by omega), f2 0 4 (by omega)⟩ g m ⟨by omega, by omega⟩ (fun f => ⟨by omega, by omega⟩) (fun k _ _ q => by omega) (fun q r z => by unfold iRn at z; omega) (fun q r z => by unfold aRn at z; omega) (fun q z => z)⟩, y7, y1, ⟨y4, y5, by omega⟩, ⟨y2, y3⟩, ?_, ?_⟩
      · rw [p3]; omega
      · rw [p4]; omega
  | 5 =>
    obtain ⟨v, q1, q2⟩ := p_trouble (N := N) (X := X) (a := a1) hT
    exact ⟨t, s, ⟨v, q1, q2⟩, hI.dn⟩
  | 6 =>
    obtain ⟨v, q1, q2⟩ := p_out (N := N) (X := X) (a := a1) (iO_of hc hr (by omega))
    exact ⟨t, s, ⟨v, q1, q2⟩, hI.dn⟩
  | 7 =>
    obtain ⟨v, q1, q2⟩ := p_outs (N := N) (X := X) (iO_of hc hr (by omega))
    exact ⟨t, s, ⟨v, q1, q2⟩, hI.dn⟩
  | 8 =>
    obtain ⟨t', s', l', v, q1, q2, q3, q4, q5, q6, q7, q8⟩ := p_show (N := N) (X := X) (by omega) hS hH hc hr a1
    have g := q6.O
    have hP : kP t' = kP t := q6.2.2.1
    have eg : gA t' σ0 = gA t σ0 := gA_eq q6.2.2.2.2.1 (fun k hk => (q6.2.2.2.1 k (by omega) (by omega)).1)
    obtain ⟨p3, p4⟩ := potL.kp0 g (fun k _ _ q => by omega)
    have y1 := q6.2.2.2.2.2.2.2.1
    have y2 := q6.2.2.2.2.2.2.2.2
    refine ⟨t', s', ⟨v, q1, q2⟩, by omega, S, σ0, k, μ, p, p', e, l', ⟨hA.kp0 g q7 (by omega) (by omega) (by omega) (by omega), hO1.kp0 ⟨by rw [hP], by rw [hP]⟩ g q7 ⟨by omega, by omega⟩ (fun f => ⟨by omega, by omega⟩) (fun k _ _ q => by omega) (fun q _ z => by omega) (fun q _ z => by omega) (fun q z => z)⟩, hT.kp0 g q7 (fun f => by omega) (fun q _ _ z => by omega), hS.gf q6 (by omega) (fun k q => by omega) (q7.1 88 (by omega)) (q7.2.2.1 47 (by omega)), ⟨q3, q4, by omega⟩, ⟨q8, hM.kp0 g (fun k _ _ q => by omega)⟩, ?_, ?_⟩
    · rw [p3, eg]; omega
    · rw [p4, eg]; omega
  | 9 =>
    obtain ⟨t', s', S', v, q1, q2, q3, q4, q5⟩ := p_set (N := N) (X := X) hS (by omega) a1 a2
    exact ⟨t', s', ⟨v, q1, q2⟩, InvR.shelf (c := 2) hn hA hO1 hT hS hc hr hl hH hM hq hkN (by omega) q3 q4 q5⟩
  | 10 =>
    obtain ⟨t', s', S', v, q1, q2, q3, q4, q5⟩ := p_add (N := N) (X := X) hS (by omega) a1 a2
    exact ⟨t', s', ⟨v, q1, q2⟩, InvR.shelf (c := 3) hn hA hO1 hT hS hc hr hl hH hM hq hkN (by omega) q3 q4 q5⟩
  | 11 =>
    obtain ⟨t', s', S', v, q1, q2, q3, q4, q5⟩ := p_clear (N := N) (X := X) hS a1
    exact ⟨t', s', ⟨v, q1, q2⟩, InvR.shelf (c := 0) hn hA hO1 hT hS hc hr hl hH hM hq hkN (by omega) q3 q4 q5⟩
  | 12 =>
    obtain ⟨v, q1, q2⟩ := p_kind (N := N) (X := X) hS a1
    exact ⟨t, s, ⟨v, q1, q2⟩, hI.dn⟩
  | 13 =>
    obtain ⟨t', v, q1, q2, q3, q4⟩ := p_size (N := N) (X := X) (by omega) hS hH a1 a2
    refine ⟨t', s, ⟨v, q1, q2⟩, ?_⟩
    have q6 := q3.gf
    have g := q6.O
    have m : mfr (fun _ => False) (fun _ => False) (fun _ => False) (fun _ => False) s s := mfr.rf
    have hP : kP t' = kP t := q6.2.2.1
    have eg : gA t' σ0 = gA t σ0 := gA_eq q6.2.2.2.2.1 (fun k hk => (q6.2.2.2.1 k (by omega) (by omega)).1)
    obtain ⟨p3, p4⟩ := potL.kp0 g (fun k _ _ q => by omega)
    have y1 := q6.2.2.2.2.2.2.2.1
    have y2 := q6.2.2.2.2.2.2.2.2
    have hN' : kN t' + 200 < zz_out := by
      have := pot_le (t := t') q4.2.2.2.2.2
      omega
    refine ⟨by omega, S, σ0, k, μ, p, p', e, l, ⟨hA.kp0 g m (by omega) (by omega) (fun z => z) (fun z => z), hO1.kp0 ⟨by rw [hP], by rw [hP]⟩ g m ⟨by omega, by omega⟩ (fun f => ⟨by omega, by omega⟩) (fun k _ _ q => by omega) (fun q _ z => z) (fun q _ z => z) (fun q z => z)⟩, hT.kp0 g m (fun f => by omega) (fun q _ _ z => z), hS.rd q3, ⟨hc.kp0 g (by omega) ⟨by omega, by omega⟩ hN', hr, by omega⟩, ⟨q4, hM.kp0 g (fun k _ _ q => by omega)⟩, ?_, ?_⟩
    · rw [p3, eg]; omega
    · rw [p4, eg]; omega
  | 14 =>
    obtain ⟨t', v, q1, q2, q3, q4⟩ := p_cell (N := N) (X := X) (by omega) hS hH a1 a2 a3
    refine ⟨t', s, ⟨v, q1, q2⟩, ?_⟩
    have q6 := q3.gf
    have g := q6.O
    have m : mfr (fun _ => False) (fun _ => False) (fun _ => False) (fun _ => False) s s := mfr.rf
    have hP : kP t' = kP t := q6.2.2.1
    have eg : gA t' σ0 = gA t σ0 := gA_eq q6.2.2.2.2.1 (fun k hk => (q6.2.2.2.1 k (by omega) (by omega)).1)
    obtain ⟨p3, p4⟩ := potL.kp0 g (fun k _ _ q => by omega)
    have y1 := q6.2.2.2.2.2.2.2.1
    have y2 := q6.2.2.2.2.2.2.2.2
    have hN' : kN t' + 200 < zz_out := by
      have := pot_le (t := t') q4.2.2.2.2.2
      omega
    refine ⟨by omega, S, σ0, k, μ, p, p', e, l, ⟨hA.kp0 g m (by omega) (by omega) (fun z => z) (fun z => z), hO1.kp0 ⟨by rw [hP], by rw [hP]⟩ g m ⟨by omega, by omega⟩ (fun f => ⟨by omega, by omega⟩) (fun k _ _ q => by omega) (fun q _ z => z) (fun q _ z => z) (fun q z => z)⟩, hT.kp0 g m (fun f => by omega) (fun q _ _ z => z), hS.rd q3, ⟨hc.kp0 g (by omega) ⟨by omega, by omega⟩ hN', hr, by omega⟩, ⟨q4, hM.kp0 g (fun k _ _ q => by omega)⟩, ?_, ?_⟩
    · rw [p3, eg]; omega
    · rw [p4, eg]; omega
  | 15 =>
    obtain ⟨s', v, q1, q2, q3⟩ := p_same (N := N) (X := X) (by omega) hS a1 a2
    have g : kfO (fun _ _ => False) (fun _ => False) t t := ⟨fun _ _ _ => rfl, fun _ _ _ _ => ⟨rfl, rfl⟩⟩
    exact ⟨t, s', ⟨v, q1, q2⟩, by omega, S, σ0, k, μ, p, p', e, l, ⟨hA.kp0 g q3 (fun z => z) (fun z => z) (by omega) (by omega), hO1.kp0 ⟨rfl, rfl⟩ g q3 ⟨fun z => z, fun z => z⟩ (fun f => ⟨fun z => z, fun z => z⟩) (fun k _ _ z => z) (fun q _ z => by omega) (fun q _ z => by omega) (fun q z => z)⟩, hT.kp0 g q3 (fun f z => z) (fun q _ _ z => by omega), hS.rk (q3.1 88 (by omega)) (fun y _ => by rw [q3.2.2.1 47 (by omega)]), ⟨hc, hr.kp0 q3 (by omega) (by omega), by omega⟩, ⟨hH, hM⟩, by omega, by omega⟩
  | 16 =>
    obtain ⟨t', s', S', k', μ', v, q1, q2, q3, q4, q5, q6, q7, q8⟩ := p_mark (N := N) (X := X) (by omega) hS (by omega)
    have g := q4.O
    obtain ⟨p1, p2⟩ := pot.kp0 g (fun k _ _ q => q)
    obtain ⟨p3, p4⟩ := potL.kp0 g (fun k _ _ q => q)
    refine ⟨t', s', ⟨v, q1, q2⟩, by omega, S', σ0, k', μ', p, p', e, l, ⟨hA.kp0 g q8 (by omega) (fun z => z) (by omega) (by omega), hO1.kp0 ⟨q4.2.2.1 0 3 (by omega), q4.2.2.1 0 4 (by omega)⟩ g q8 ⟨by omega, by omega⟩ (fun f => ⟨by omega, by omega⟩) (fun k _ _ q => q) (fun q _ z => by omega) (fun q _ z => by omega) (fun q z => z)⟩, hT.kp0 g q8 (fun f => by omega) (fun q _ _ z => by omega), q3, ⟨hc.kp0 g (by omega) ⟨fun z => z, fun z => z⟩ (by omega), hr.kp0 q8 (by omega) (by omega), by omega⟩, ⟨hH.kp0 g ⟨fun z => z, fun z => z, fun z => z⟩ (by omega), hM.kp0 g (fun k _ _ q => q)⟩, ?_, ?_⟩
    · rw [p1, p3]; omega
    · rw [p2, p4]; omega
  | 17 =>
    obtain ⟨t', s', S', σ', k', v, q1, q2, q3, q4, q5, q6, q7, q8⟩ := p_back (N := N) (X := X) (by omega) hS
    have g := q4.O
    obtain ⟨p1, p2⟩ := pot.kp0 g (fun k _ _ q => q)
    obtain ⟨p3, p4⟩ := potL.kp0 g (fun k _ _ q => q)
    refine ⟨t', s', ⟨v, q1, q2⟩, by omega, S', σ', k', μ, p, p', e, l, ⟨hA.kp0 g q8 (by omega) (fun z => z) (by omega) (by omega), hO1.kp0 ⟨q4.2.2.1 0 3 (by omega), q4.2.2.1 0 4 (by omega)⟩ g q8 ⟨by omega, by omega⟩ (fun f => ⟨by omega, by omega⟩) (fun k _ _ q => q) (fun q _ z => by omega) (fun q _ z => by omega) (fun q z => z)⟩, hT.kp0 g q8 (fun f => by omega) (fun q _ _ z => by omega), q3, ⟨hc.kp0 g (by omega) ⟨fun z => z, fun z => z⟩ (by omega), hr.kp0 q8 (by omega) (by omega), by omega⟩, ⟨hH.kp0 g ⟨fun z => z, fun z => z, fun z => z⟩ (by omega), hM.kp0 g (fun k _ _ q => q)⟩, ?_, ?_⟩
    · rw [p1, p3, q7, q5]; omega
    · rw [p2, p4, q7, q6]; omega
  | 18 =>
    obtain ⟨s', v, q1, q2, q3⟩ := p_sum (N := N) (X := X) (by omega) hS
    have g : kfO (fun _ _ => False) (fun _ => False) t t := ⟨fun _ _ _ => rfl, fun _ _ _ _ => ⟨rfl, rfl⟩⟩
    exact ⟨t, s', ⟨v, q1, q2⟩, by omega, S, σ0, k, μ, p, p', e, l, ⟨hA.kp0 g q3 (fun z => z) (fun z => z) (by omega) (by omega), hO1.kp0 ⟨rfl, rfl⟩ g q3 ⟨fun z => z, fun z => z⟩ (fun f => ⟨fun z => z, fun z => z⟩) (fun k _ _ z => z) (fun q _ z => by omega) (fun q _ z => by omega) (fun q z => z)⟩, hT.kp0 g q3 (fun f z => z) (fun q _ _ z => by omega), hS.rk (q3.1 88 (by omega)) (fun y _ => by rw [q3.2.2.1 47 (by omega)]), ⟨hc, hr.kp0 q3 (by omega) (by omega), by omega⟩, ⟨hH, hM⟩, by omega, by omega⟩
  | (m + 19) => exact ⟨t, s, ⟨rfl, rfl⟩, hI.dn⟩
end STP
end
-- ### 98zzzg.pure.lean.txt
section
/-! ===== PURE: the whole (3): the beginning ===== -/
theorem k0_q : kQ t0 ≤ 400000 := by decide +kernel
theorem k0_wd : ∀ w : Fin 41, s0.2.2.2 0 w.1 = Int64.ofNat (evB 27 (wd w.1)) := by decide +kernel
theorem k0_wn : ∀ w : Fin 30, s0.2.2.1 1 w.1 = Int32.ofNat (wnt w.1) := by decide +kernel
theorem k0_sl : ∀ j : Fin 8, s0.2.2.1 47 (2410 * j.1) = -1 := by decide +kernel
theorem k0_LI : LI t0 s0 12 21 0 := by
  refine ⟨rfl, rfl, Or.inl ⟨rfl, rfl⟩, ⟨⟨⟨rfl, rfl, ?_, ?_⟩, ⟨rfl, rfl, rfl, ?_, ?_⟩, ⟨rfl, rfl, ?_, ?_⟩, rfl⟩, rfl, rfl, rfl, rfl, rfl⟩, ⟨⟨⟨rfl, rfl, ?_, ?_⟩, ⟨rfl, rfl, rfl, ?_, ?_⟩, ⟨rfl, rfl, ?_, ?_⟩, rfl⟩, rfl, rfl, rfl, rfl, rfl⟩, fun w hw => k0_wd ⟨w, hw⟩, fun w hw => k0_wn ⟨w, hw⟩, ⟨[], rfl, Nat.zero_le _, fun i hi => absurd hi (Nat.not_lt_zero _)⟩, rfl, by omega⟩
  · show 1 ≤ 32; omega
  · show 32 < 13000; omega
  · show 1 ≤ 8; omega
  · show 8 < 13000; omega
  · show 1 ≤ 32; omega
  · show 32 < 13000; omega
  · show 1 ≤ 32; omega
  · show 32 < 13000; omega
  · show 1 ≤ 8; omega
  · show 8 < 13000; omega
  · show 1 ≤ 32; omega
  · show 32 < 13000; omega
theorem k0_PGI : PGI t0 s0 12 0 := by
  refine ⟨[], [], ⟨rfl, Or.inl rfl, rfl, by omega, rfl⟩, ⟨rfl, fun i hi => absurd hi (Nat.not_lt_zero _), rfl, rfl, Nat.zero_le _, ?_, ?_⟩, ⟨rfl, by decide, Nat.le_refl _, rfl, rfl, rfl, rfl, rfl, fun k hk => absurd hk (Nat.not_lt_zero _)⟩, fun i hi => absurd hi (Nat.not_lt_zero _), fun k hk => absurd hk (Nat.not_lt_zero _), fun f hf => (by cases hf), fun m hm => absurd hm (Nat.not_lt_zero _), rfl, ?_, by decide, by decide⟩
  · show 1 ≤ 32; omega
  · show 32 < 13000; omega
  · intro i hi
    cases hi
theorem k0_iS : iS (fun _ => none) 30 0 (fun _ => 0) t0 s0 := by
  refine ⟨by omega, rfl, rfl, rfl, ⟨⟨rfl, rfl, fun j hj => ?_⟩, by show 30 < 111; omega⟩, fun j hj => ⟨⟨rfl, Nat.zero_le _, fun i hi => absurd hi (Nat.not_lt_zero _)⟩, k0_sl ⟨j, hj⟩⟩, fun j x q => (by cases q), fun m hm σ q => (by cases q), fun m hm => absurd hm (Nat.not_lt_zero _)⟩
  have : j = 0 ∨ j = 1 ∨ j = 2 ∨ j = 3 ∨ j = 4 ∨ j = 5 ∨ j = 6 ∨ j = 7 := by omega
  rcases this with q | q | q | q | q | q | q | q <;> subst q <;> exact (by show 4 ≤ 3000; omega)
theorem InvR_0 : InvR 512 t0 s0 := by
  have hr : rmK t0 := by
    refine rmK_of ?_ ?_
    · show 111 + 200 < 1048576; omega
    · show 64 ≤ 600; omega
  refine ⟨Nat.le_refl _, fun _ => none, 30, 0, fun _ => 0, 12, 21, 0, [], ⟨⟨0, 320, ⟨rfl, rfl, rfl, fun i hi => absurd hi (Nat.not_lt_zero _), fun i => rfl⟩, Nat.zero_le _, rfl, Or.inl rfl⟩, ⟨rfl, rfl⟩, k0_LI, k0_PGI, fun _ => rfl⟩, ⟨rfl, fun q => absurd rfl q⟩, k0_iS, ⟨⟨rfl, fun i hi => absurd hi (Nat.not_lt_zero _), fun i => rfl, Or.inl (Nat.zero_le _), Or.inl rfl, rfl, hr⟩, ⟨rfl, fun i hi => absurd hi (Nat.not_lt_zero _)⟩, Nat.zero_le _⟩, ⟨⟨?_, ?_, ?_, ?_, hr⟩, ⟨⟨rfl, rfl, rfl, rfl, rfl⟩, ⟨?_, ?_⟩, rfl, rfl, ?_, ?_⟩⟩, ?_, ?_⟩
  · show 1 ≤ 32; omega
  · show 1 ≤ 128; omega
  · show 128 < 350000; omega
  · show 32 < 130000; omega
  · show 1 ≤ 32; omega
  · show 32 ≤ 40000; omega
  · show 1 ≤ 8; omega
  · show 8 ≤ 1000; omega
  · have e : kN t0 = 111 := rfl
    rw [e]
    exact Nat.le_trans (Nat.le_add_right 111 (40 * (512 - 512))) (Nat.le_add_right _ _)
  · exact Nat.le_trans (Nat.le_trans k0_q (Nat.le_add_right 400000 (9700 * (512 - 512)))) (Nat.le_add_right _ _)
/-- lw_Pure, but for the outside -/
theorem lw_pure0 : InvR 512 t0 s0 ∧ (∀ (X : Nat → Option zz_C) (n : Nat) (t : cS) (s : mS) (op a1 a2 a3 a4 a5 : Int32), oX 700000 X → oY X → oZ X → InvR (n + 1) t s → ∃ t' s', lwC 700000 X op.toInt.toNat a1 a2 a3 a4 a5 t s t' s' ∧ InvR n t' s') ∧ ∀ n t s, InvR n t s → kN t ≤ 600000 ∧ kQ t ≤ 7290000 := ⟨InvR_0, fun _ _ _ _ op _ _ _ _ _ hX hY hZ hI => lw_step (Nat.le_refl _) hX hY hZ hI op.toInt.toNat, fun _ _ _ h => h.bd⟩
end
