/-! ===== PURE: moves of both parsers ===== -/
def FR (p e : Nat) (t t' : cS) (s s' : mS) : Prop := gL (eQ p) (aQ p) t t' ∧ fQ e s s'
/-- not too many orders -/
def oB (s : mS) : Prop := ∃ m, m ≤ 1900 ∧ s.1 28 = Int32.ofNat m
/-- the sizes of what grows -/
def SZ (p : Nat) (t : cS) : Prop := ((kA t 5).1 = (kA t 4).1 ∧ (kB t 6).1 = (kA t 4).1 ∧ 1 ≤ (kA t 4).1 ∧ (kA t 4).1 < 13000) ∧ ((kB t 9).1 = (kA t 8).1 ∧ (kA t 10).1 = (kA t 8).1 ∧ (kA t 11).1 = (kA t 8).1 ∧ 1 ≤ (kA t 8).1 ∧ (kA t 8).1 < 13000) ∧ ((kA t (p + 2)).1 = (kA t (p + 1)).1 ∧ (kA t (p + 3)).1 = (kA t (p + 1)).1 ∧ 1 ≤ (kA t (p + 1)).1 ∧ (kA t (p + 1)).1 < 13000) ∧ (kB t 7).1 = 14
theorem SZ.kp {p : Nat} {E : Nat → Nat → Prop} {A : Nat → Prop} {t t' : cS} (h : SZ p t) (g : gX E A t t') (hp : p = 12 ∨ p = 21) (hA : ∀ k, A k → ¬ (k = 4 ∨ k = 5 ∨ k = 6 ∨ k = 7 ∨ k = 8 ∨ k = 9 ∨ k = 10 ∨ k = 11 ∨ k = p + 1 ∨ k = p + 2 ∨ k = p + 3)) : SZ p t' := by
  have e : ∀ k, (k = 4 ∨ k = 5 ∨ k = 6 ∨ k = 7 ∨ k = 8 ∨ k = 9 ∨ k = 10 ∨ k = 11 ∨ k = p + 1 ∨ k = p + 2 ∨ k = p + 3) → kA t' k = kA t k ∧ kB t' k = kB t k := fun k hk => by
    have := g.2.2.1 k (fun z => hA k z hk) (by rcases hp with y | y <;> omega)
    exact ⟨this.1, this.2.1⟩
  unfold SZ at h ⊢
  rw [(e 4 (by omega)).1, (e 5 (by omega)).1, (e 6 (by omega)).2, (e 7 (by omega)).2, (e 8 (by omega)).1, (e 9 (by omega)).2, (e 10 (by omega)).1, (e 11 (by omega)).1, (e (p + 1) (by omega)).1, (e (p + 2) (by omega)).1, (e (p + 3) (by omega)).1]
  exact h
def FX (p e : Nat) (t t' : cS) (s s' : mS) : Prop := gX (eQ p) (aQ p) t t' ∧ fQ e s s' ∧ oB s' ∧ SZ p t'
section MOV
variable {N : Nat} {X : Nat → Option zz_C} {t t' t1 t2 : cS} {s s' s1 s2 : mS} {b : Nat → Nat} {n p e i i' op op' D D' : Nat} {code code' : List Ins} {vs vs' : List (List Nat)} {cl : List Cn} {W W' : List Wt} {cu cu' : List Nat} {fs : Nat × Nat × Nat}
theorem FR.rf : FR p e t t s s := ⟨gL.rf, fQ.rf⟩
theorem FR.tr (h : FR p e t t1 s s1) (g : FR p e t1 t2 s1 s2) : FR p e t t2 s s2 := ⟨h.1.tr g.1, h.2.tr g.2⟩
theorem FR.pre (h : FR p e t t1 s s1) (g : FX p e t1 t2 s1 s2) : FX p e t t2 s s2 := ⟨gX.pre h.1 g.1, h.2.tr g.2.1, g.2.2⟩
theorem oB.kp (h : oB s) (h1 : s'.1 28 = s.1 28) : oB s' := by
  obtain ⟨m, h2, h3⟩ := h
  exact ⟨m, h2, h1.trans h3⟩
theorem rCd.oB {L : List R5} (h : rCd s e L) (hl : L.length ≤ 1900) : oB s := ⟨_, hl, h.2.2.1⟩
theorem PE.oB (h : PE b n p e i op D code code' vs cl W cu fs t s) : oB s := by
  obtain ⟨fl, hf⟩ := h.2.2.2.1.2.2
  have h1 := h.2.2.2.2.2.2.2.2.2.2.1
  obtain ⟨hi, e5, e6, e7, hkk, ho, he, hlt, hll⟩ := h.1.now
  rw [hf, rl_app] at h1
  exact h.2.2.1.oB (by rw [RA_len]; omega)
theorem PEg.sz {cp : List Cn} (h : PEg b n p e i op D code code' vs cl cp W cu fs t s) : SZ p t := by
  obtain ⟨h1, hc, hr, hw, hW, hV, k1, k2, k3, k4⟩ := h
  exact ⟨⟨h1.1.2.2.1, h1.1.2.2.2.1, h1.1.2.2.2.2.2.1, h1.1.2.2.2.2.2.2.1⟩, ⟨k1.2.2.1, k1.2.2.2.1, k1.2.2.2.2.1, k1.2.2.2.2.2.2.1, k1.2.2.2.2.2.2.2⟩, ⟨hc.2.2.2.2.1, hc.2.2.2.2.2.1, hc.2.2.2.2.2.2.2.1, hc.2.2.2.2.2.2.2.2⟩, hV.2.2.1⟩
theorem PE.sz (h : PE b n p e i op D code code' vs cl W cu fs t s) : SZ p t := PEg.sz h
/-- and behind a fault that comes at once -/
theorem PE.szF (h : PE b n p e i op D code code' vs cl W cu fs t s) (g : gX eP a0 t t') : SZ p t' := h.sz.kp g h.2.1.2.1 (fun _ z => z.elim)
theorem eP_Q : ∀ k f, eP k f → eQ p k f := fun k f z => by
  rcases z with ⟨z1, z2⟩ | ⟨z1, z2⟩
  · exact Or.inl ⟨z1, z2⟩
  · exact Or.inr (Or.inl ⟨z1, by omega⟩)
theorem eV_Q : ∀ k f, eV k f → eQ p k f := fun k f z => by
  rcases z with ⟨z1, z2⟩ | ⟨z1, z2⟩
  · exact Or.inl ⟨z1, z2⟩
  · exact Or.inr (Or.inl ⟨z1, by omega⟩)
/-- fewer tokens are owed -/
theorem PE.dn (h : PE b n p e i op D code code' vs cl W cu fs t s) (hD : D' ≤ D) : PE b n p e i op D' code code' vs cl W cu fs t s := by
  obtain ⟨h1, hc, hr, hw, hW, hV, k1, k2, k3, k4, k5, k6, k7⟩ := h
  exact ⟨h1, hc, hr, hw, hW, hV, k1, k2, k3, k4, by omega, k6, by omega⟩
/-- tokens go on -/
theorem PE.mv (h : PE b n p e i op D code code' vs cl W cu fs t s) (hq : pR b n i' op' t' s') (hi : i ≤ i') (g : gL eP a0 t t') (f : fPs s s') : PE b n p e i' op' (D + (i' - i)) code code' vs cl W cu fs t' s' ∧ FR p e t t' s s' := by
  obtain ⟨h1, hc, hr, hw, hW, hV, k1, k2, k3, k4, k5, k6, k7⟩ := h
  have hp := hc.2.1
  exact ⟨⟨hq, hc.keep g (by rcases hp with z | z <;> subst z <;> omega) (fun _ z => z.elim) (g.p21 (by omega)), hr.keep (f.1 12 (by omega)) (f.1 28 (by omega)) (fun q _ => f.2.2.1 q (fun z => z)), hw, hW.keep (f.1 44 (by omega)) (fun q _ => f.2.2.1 q (fun z => z)) (f.2.2.2 42 (fun z => z)), hV.keep (g.1 2 4 (by omega)) (g.2.2.1 7 (fun z => z) (by decide)).2.1 (f.1 22 (by omega)) (f.2.2.2 21 (fun z => z)), k1.keep g (by omega) (fun _ z => z.elim), k2.keep (f.1 29 (by omega)) (fun q _ => f.2.2.1 q (fun z => z)) (f.2.2.2 33 (fun z => z)), k3, k4, by omega, k6, by omega⟩, g.mono eP_Q (fun _ z => z.elim), fPs.Q f⟩
/-- a sign that opens nothing -/
theorem PE.sgn {c : Nat} (hN : 170000 ≤ N) (h : PE b n p e i op D code code' vs cl W cu fs t s) (hc : c = 41 ∨ c = 93 ∨ c = 125 ∨ c = 59 ∨ c = 44 ∨ c = 61) (ho1 : c = 41 ∨ c = 93 ∨ c = 125 → 1 ≤ op) : (∃ t' s', cf_201 N X (Int32.ofNat c) t = some (t', .inl none) ∧ mf_267 N (Int32.ofNat c) s = some (s', none) ∧ (∃ hi : i < (TL b n).length, (TL b n)[i].1 = c) ∧ PE b n p e (i + 1) (if c = 41 ∨ c = 93 ∨ c = 125 then op - 1 else op) (D + 1) code code' vs cl W cu fs t' s' ∧ FR p e t t' s s' ∧ fPs s s') ∨ (∃ t' s', cf_201 N X (Int32.ofNat c) t = some (t', .inr ()) ∧ mf_267 N (Int32.ofNat c) s = some (s', none) ∧ pF t' s' ∧ FX p e t t' s s' ∧ fPs s s') := by
  rcases p_sign (N := N) (X := X) hN h.1 hc ho1 with ⟨t', s', a1, a2, a3, a4, a5, a6⟩ | ⟨t', s', a1, a2, a3, a4, a5⟩
  · obtain ⟨b1, b2⟩ := h.mv a4 (Nat.le_succ i) a5 a6
    exact Or.inl ⟨t', s', a1, a2, a3, by rw [show D + 1 = D + (i + 1 - i) by omega]; exact b1, b2, a6⟩
  · exact Or.inr ⟨t', s', a1, a2, a3, ⟨a4.mono eP_Q (fun _ z => z.elim), fPs.Q a5, h.oB.kp (a5.1 28 (by omega)), h.szF a4⟩, a5⟩
/-- a sign that opens -/
theorem PE.opn {c : Nat} (hN : 170000 ≤ N) (h : PE b n p e i op D code code' vs cl W cu fs t s) (hc : c = 40 ∨ c = 91 ∨ c = 123) : (∃ t' s', cf_201 N X (Int32.ofNat c) t = some (t', .inl none) ∧ mf_268 N (Int32.ofNat c) s = some (s', none) ∧ (∃ hi : i < (TL b n).length, (TL b n)[i].1 = c) ∧ op < 10 ∧ PE b n p e (i + 1) (op + 1) (D + 1) code code' vs cl W cu fs t' s' ∧ FR p e t t' s s') ∨ (∃ t' s', cf_201 N X (Int32.ofNat c) t = some (t', .inr ()) ∧ mf_268 N (Int32.ofNat c) s = some (s', none) ∧ pF t' s' ∧ FX p e t t' s s' ∧ fPs s s') := by
  rcases p_opens (N := N) (X := X) hN h.1 hc with ⟨t', s', a1, a2, a3, ao, a4, a5, a6⟩ | ⟨t', s', a1, a2, a3, a4, a5⟩
  · obtain ⟨b1, b2⟩ := h.mv a4 (Nat.le_succ i) a5 a6
    exact Or.inl ⟨t', s', a1, a2, a3, ao, by rw [show D + 1 = D + (i + 1 - i) by omega]; exact b1, b2⟩
  · exact Or.inr ⟨t', s', a1, a2, a3, ⟨a4.mono eP_Q (fun _ z => z.elim), fPs.Q a5, h.oB.kp (a5.1 28 (by omega)), h.szF a4⟩, a5⟩
/-- a variable is named -/
theorem PE.nam (hN : 170000 ≤ N) (h : PE b n p e i op D code code' vs cl W cu fs t s) : (∃ r t' s' vs', cf_195 N X t = some (t', .inl (some (.int (cv r)))) ∧ mf_275 N s = some (s', some (.int (Int32.ofNat r))) ∧ (∃ hi : i < (TL b n).length, ck (TL b n)[i] = 3) ∧ PE b n p e (i + 1) op (D + 1) code code' vs' cl W cu fs t' s' ∧ r < 8 + vs'.length ∧ FR p e t t' s s') ∨ (∃ t' s', cf_195 N X t = some (t', .inr ()) ∧ mf_275 N s = some (s', some (.int 0)) ∧ pF t' s' ∧ FX p e t t' s s' ∧ fV s s') := by
  have hoB := h.oB
  have hz : ∀ {t'}, gX eP a0 t t' → SZ p t' := fun g => h.szF g
  obtain ⟨h1, hc, hr, hw, hW, hV, k1, k2, k3, k4, k5, k6, k7⟩ := h
  have hp := hc.2.1
  rcases p_name (N := N) (X := X) hN h1 hV with ⟨r, t', s', vs', a1, a2, a3, a4, a5, a6, ⟨l, a7⟩, g, f⟩ | ⟨t', s', a1, a2, a3, a4, a5⟩
  · refine Or.inl ⟨r, t', s', vs', a1, a2, a3, ⟨a4, hc.keep g (by rcases hp with z | z <;> subst z <;> omega) (fun _ z => by rcases hp with y | y <;> omega) (g.p21 (by omega)), hr.keep (f.1 12 (by omega)) (f.1 28 (by omega)) (fun q _ => f.2.2.1 q (fun z => z)), hw, hW.keep (f.1 44 (by omega)) (fun q _ => f.2.2.1 q (fun z => z)) (f.2.2.2 42 (by omega)), a5, k1.keep g (by omega) (fun _ z => by omega), k2.keep (f.1 29 (by omega)) (fun q _ => f.2.2.1 q (fun z => z)) (f.2.2.2 33 (by omega)), k3, k4.mono (by rw [a7, List.length_append]; omega), by omega, k6, by omega⟩, a6, g.mono eV_Q (fun _ z => Or.inl z), fV.Q f⟩
  · exact Or.inr ⟨t', s', a1, a2, a3, ⟨a4.mono eP_Q (fun _ z => z.elim), fV.Q a5, hoB.kp (a5.1 28 (by omega)), hz a4⟩, a5⟩
/-- what the class has written -/
theorem cK_app {c : Ins} {x : Cn} (h : x.1 < code.length) : cK (code ++ [c]) x = cK code x := by
  unfold cK
  rw [posC_app (Nat.le_of_lt h)]
theorem rK_app {c : Ins} {x : Cn} (h : x.1 < code.length) : rK e (code ++ [c]) x = rK e code x := by
  unfold rK
  rw [posR_app (Nat.le_of_lt h)]
abbrev tgO (l : Nat) (c : Ins) : Prop := c.2.1 = unk ∨ c.2.1 ≤ l ∨ ¬ (c.1 = 13 ∨ c.1 = 14 ∨ c.1 = 18 ∨ c.1 = 23 ∨ c.1 = 24)
theorem PEg.cEm {c : Ins} {cp : List Cn} {js : Nat} (h : PEg b n p e i op D code code' vs cl cp W cu fs t s) (hcv : c.1 = 9 ∨ c.1 = 10 → ∃ x ∈ cp, x.1 = code.length) (hjs : (js = fs.2.1 ∧ noJ c) ∨ js = code.length + 1) (hc : tgO code.length c) (he : eff c cu = some cu') (ho : okI vs.length c) (hd : cCd t' p (CA code ++ cI code (posC code code.length) c)) (g : gL (eC p) (aC p) t t') (gl : kL t' = kL t) (hD : D' + 1 ≤ D) (hD2 : rlen c + xlen c ≤ 1 ∨ D' + (rlen c + xlen c) ≤ D) : PEg b n p e i op D' (code ++ [c]) code' vs cl cp W cu' (fs.1, js, fs.2.2) t' s ∧ FR p e t t' s s := by
  obtain ⟨h1, hc', hr, ⟨w1, w2, ⟨fl, w3⟩⟩, hW, hV, k1, k2, k3, k4, k5, k6, k7⟩ := h
  have hp := hc'.2.1
  have r2 : rlen c ≤ 2 := by unfold rlen; split <;> (try split) <;> omega
  have r3 : clen c ≤ 3 := by unfold clen; split <;> (try split) <;> (try split) <;> omega
  have e1 : cl.map (cK (code ++ [c])) = cl.map (cK code) := List.map_congr_left fun x hx => cK_app (k3.1 x hx).1
  have e2 : cl.map (rK e (code ++ [c])) = cl.map (rK e code) := List.map_congr_left fun x hx => rK_app (k3.1 x hx).1
  refine ⟨⟨h1.kC g gl (fun k f z => by rcases hp with y | y <;> omega) (fun k z => by rcases hp with y | y <;> omega), by rw [CA_app w1 hc]; exact hd, hr, ⟨wfC_app w1 (by rcases hc with z | z | z; exact Or.inl z; exact Or.inr (Or.inl (by omega)); exact Or.inr (Or.inr z)), w2, ⟨fl ++ [c], by rw [w3, List.append_assoc]⟩⟩, hW, hV.keep (g.1 2 4 (fun z => by rcases hp with y | y <;> omega)) (g.2.2.1 7 (fun z => by rcases hp with y | y <;> omega) (by decide)).2.1 rfl rfl, by rw [e1]; exact k1.keep g (fun z => by rcases hp with y | y <;> omega) (fun _ z => by rcases hp with y | y <;> omega), by rw [e2]; exact k2, k3.app hcv, k4.app (Nat.le_refl _) he ho hjs, by rw [rl_app, rl_one, xl_app, xl_one]; omega, by rw [rl_app]; omega, by rw [cx_app, cx_one]; omega⟩, g.mono (fun k f z => Or.inr (Or.inr z)) (fun k z => by unfold aQ; omega), fQ.rf⟩
theorem PE.cEm {c : Ins} (h : PE b n p e i op D code code' vs cl W cu fs t s) (hc : tgO code.length c) (he : eff c cu = some cu') (ho : okI vs.length c) (hd : cCd t' p (CA code ++ cI code (posC code code.length) c)) (g : gL (eC p) (aC p) t t') (gl : kL t' = kL t) (hD : D' + 1 ≤ D) (hD2 : rlen c + xlen c ≤ 1 ∨ D' + (rlen c + xlen c) ≤ D) (hx : xp c := by unfold xp noJ; simp) : PE b n p e i op D' (code ++ [c]) code' vs cl W cu' fs t' s ∧ FR p e t t' s s := PEg.cEm h (fun z => absurd z hx.1) (Or.inl ⟨rfl, hx.2⟩) hc he ho hd g gl hD hD2
/-- what the reference has written -/
theorem PEg.rEm {c : Ins} {cp : List Cn} {fl : List Ins} (h : PEg b n p e i op D code code' vs cl cp W cu fs t s) (hc : tgO code'.length c) (hf : code = code' ++ c :: fl) (hd : rCd s' e (RA e code' ++ rI e code' c)) (f : fO e s s') : PEg b n p e i op D code (code' ++ [c]) vs cl cp W cu fs t s' ∧ FR p e t t s s' := by
  obtain ⟨h1, hc', hr, ⟨w1, w2, w3⟩, hW, hV, k1, k2, k3, k4, k5, k6, k7⟩ := h
  refine ⟨⟨h1.kR (fun q z => f.1 q (by omega)) (f.2.1 7) (f.2.2.1 2 (by omega)) (f.2.2.2.1 0), hc', by rw [RA_app w2 hc]; exact hd, ⟨w1, wfC_app w2 (by rcases hc with z | z | z; exact Or.inl z; exact Or.inr (Or.inl (by omega)); exact Or.inr (Or.inr z)), ⟨fl, by rw [hf, List.append_assoc]; rfl⟩⟩, hW.keep (f.1 44 (by omega)) (fun q _ => f.2.2.1 q (by omega)) (f.2.2.2.1 42), hV.keep rfl rfl (f.1 22 (by omega)) (f.2.2.2.1 21), k1, k2.keep (f.1 29 (by omega)) (fun q _ => f.2.2.1 q (by omega)) (f.2.2.2.1 33), k3, k4, k5, k6, k7⟩, gL.rf, fO.Q f⟩
theorem PE.rEm {c : Ins} {fl : List Ins} (h : PE b n p e i op D code code' vs cl W cu fs t s) (hc : tgO code'.length c) (hf : code = code' ++ c :: fl) (hd : rCd s' e (RA e code' ++ rI e code' c)) (f : fO e s s') : PE b n p e i op D code (code' ++ [c]) vs cl W cu fs t s' ∧ FR p e t t s s' := PEg.rEm h hc hf hd f
/-- what waits -/
theorem PE.wt (h : PE b n p e i op D code code' vs cl W cu fs t s) (hd : rW s' W') (f : fW s s') : PE b n p e i op D code code' vs cl W' cu fs t s' ∧ FR p e t t s s' := by
  obtain ⟨h1, hc', hr, hw, hW, hV, k1, k2, k3, k4, k5, k6, k7⟩ := h
  exact ⟨⟨h1.kR (fun q z => f.1 q (by omega)) (f.2.1 7 (fun z => z)) (f.2.2.1 2 (by omega)) (f.2.2.2 0 (by omega)), hc', hr.keep (f.1 12 (by omega)) (f.1 28 (by omega)) (fun q _ => f.2.2.1 q (by omega)), hw, hd, hV.keep rfl rfl (f.1 22 (by omega)) (f.2.2.2 21 (by omega)), k1, k2.keep (f.1 29 (by omega)) (fun q _ => f.2.2.1 q (by omega)) (f.2.2.2 33 (by omega)), k3, k4, k5, k6, k7⟩, gL.rf, fW.Q f ⟨_, hd⟩⟩
end MOV
