-- ### 89q.pure.lean.txt
section
/-! ===== PURE: moves of both parsers ===== -/
def FR (p e : Nat) (t t' : cS) (s s' : mS) : Prop := gL (eQ p) (aQ p) t t' ∧ fQ e s s'
/-- not too many orders -/
def oB (s : mS) : Prop := ∃ m, m ≤ 1900 ∧ s.1 28 = Int32.ofNat m
/-- the sizes of what grows -/
def SZ (p : Nat) (t : cS) : Prop := ((kA t 5).1 = (kA t 4).1 ∧ (kB t 6).1 = (kA t 4).1 ∧ 1 ≤ (kA t 4).1 ∧ (kA t 4).1 < 13000) ∧ ((kB t 9).1 = (kA t 8).1 ∧ (kA t 10).1 = (kA t 8).1 ∧ (kA t 11).1 = (kA t 8).1 ∧ 1 ≤ (kA t 8).1 ∧ (kA t 8).1 < 13000) ∧ ((kA t (p + 2)).1 = (kA t (p + 1)).1 ∧ (kA t (p + 3)).1 = (kA t (p + 1)).1 ∧ 1 ≤ (kA t (p + 1)).1 ∧ (kA t (p + 1)).1 < 13000) ∧ (kB t 7).1 = 14
theorem SZ.kp {p : Nat} {E : Nat → Nat → Prop} {A : Nat → Prop} {t t' : cS} (h : SZ p t) (g : gX E A t t') (hp : p = 12 ∨ p = 21) (hA : ∀ k, A k → ¬ (k = 4 ∨ k = 5 ∨ k = 6 ∨ k = 7 ∨ k = 8 ∨ k = 9 ∨ k = 10 ∨ k = 11 ∨ k = p + 1 ∨ k = p + 2 ∨ k = p + 3)) : SZ p t' := by
  have e : ∀ k, (k = 4 ∨ k = 5 ∨ k = 6 ∨ k = 7 ∨ k = 8 ∨ k = 9 ∨ k = 10 ∨ k = 11 ∨ k = p + 1 ∨ k = p + 2 ∨ k = p + 3) → kA t' k = kA t k ∧ kB t' k = kB t k := fun k hk => by
    have := g.2.2.1 k (fun z => hA k z hk) (by rcases hp with y | y <;> omega)
    exact ⟨this.1, this.2.1⟩
  unfold SZ at h ⊢
  rw [(e 4 (by omega)).1, (e 5 (by omega)).1, (e 6 (by omega)).2, (e 7 (by omega)).2, (e 8 (by omega)).1, (e 9 (by omega)).2, (e 10 (by omega)).1, (e 11 (by omega)).1, (e (p + 1) (by omega)).1, (e (p + 2) (by omega)).1, (e (p + 3) (by omega)).1]
  exact h
def FX (p e : Nat) (t t' : cS) (s s' : mS) : Prop := gX (eQ p) (aQ p) t t' ∧ fQ e s s' ∧ oB s' ∧ SZ p t'
section MOV
variable {N : Nat} {X : Nat → Option zz_C} {t t' t1 t2 : cS} {s s' s1 s2 : mS} {b : Nat → Nat} {n p e i i' op op' D D' : Nat} {code code' : List Ins} {vs vs' : List (List Nat)} {cl : List Cn} {W W' : List Wt} {cu cu' : List Nat} {fs : Nat × Nat × Nat}
theorem FR.rf : FR p e t t s s := ⟨gL.rf, fQ.rf⟩
theorem FR.tr (h : FR p e t t1 s s1) (g : FR p e t1 t2 s1 s2) : FR p e t t2 s s2 := ⟨h.1.tr g.1, h.2.tr g.2⟩
theorem FR.pre (h : FR p e t t1 s s1) (g : FX p e t1 t2 s1 s2) : FX p e t t2 s s2 := ⟨gX.pre h.1 g.1, h.2.tr g.2.1, g.2.2⟩
theorem oB.kp (h : oB s) (h1 : s'.1 28 = s.1 28) : oB s' := by
  obtain ⟨m, h2, h3⟩ := h
  exact ⟨m, h2, h1.trans h3⟩
theorem rCd.oB {L : List R5} (h : rCd s e L) (hl : L.length ≤ 1900) : oB s := ⟨_, hl, h.2.2.1⟩
theorem PE.oB (h : PE b n p e i op D code code' vs cl W cu fs t s) : oB s := by
  obtain ⟨fl, hf⟩ := h.2.2.2.1.2.2
  have h1 := h.2.2.2.2.2.2.2.2.2.2.1
  obtain ⟨hi, e5, e6, e7, hkk, ho, he, hlt, hll⟩ := h.1.now
  rw [hf, rl_app] at h1
  exact h.2.2.1.oB (by rw [RA_len]; omega)
theorem PEg.sz {cp : List Cn} (h : PEg b n p e i op D code code' vs cl cp W cu fs t s) : SZ p t := by
  obtain ⟨h1, hc, hr, hw, hW, hV, k1, k2, k3, k4⟩ := h
  exact ⟨⟨h1.1.2.2.1, h1.1.2.2.2.1, h1.1.2.2.2.2.2.1, h1.1.2.2.2.2.2.2.1⟩, ⟨k1.2.2.1, k1.2.2.2.1, k1.2.2.2.2.1, k1.2.2.2.2.2.2.1, k1.2.2.2.2.2.2.2⟩, ⟨hc.2.2.2.2.1, hc.2.2.2.2.2.1, hc.2.2.2.2.2.2.2.1, hc.2.2.2.2.2.2.2.2⟩, hV.2.2.1⟩
theorem PE.sz (h : PE b n p e i op D code code' vs cl W cu fs t s) : SZ p t := PEg.sz h
/-- and behind a fault that comes at once -/
theorem PE.szF (h : PE b n p e i op D code code' vs cl W cu fs t s) (g : gX eP a0 t t') : SZ p t' := h.sz.kp g h.2.1.2.1 (fun _ z => z.elim)
theorem eP_Q : ∀ k f, eP k f → eQ p k f := fun k f z => by
  rcases z with ⟨z1, z2⟩ | ⟨z1, z2⟩
  · exact Or.inl ⟨z1, z2⟩
  · exact Or.inr (Or.inl ⟨z1, by omega⟩)
theorem eV_Q : ∀ k f, eV k f → eQ p k f := fun k f z => by
  rcases z with ⟨z1, z2⟩ | ⟨z1, z2⟩
  · exact Or.inl ⟨z1, z2⟩
  · exact Or.inr (Or.inl ⟨z1, by omega⟩)
/-- fewer tokens are owed -/
theorem PE.dn (h : PE b n p e i op D code code' vs cl W cu fs t s) (hD : D' ≤ D) : PE b n p e i op D' code code' vs cl W cu fs t s := by
  obtain ⟨h1, hc, hr, hw, hW, hV, k1, k2, k3, k4, k5, k6, k7⟩ := h
  exact ⟨h1, hc, hr, hw, hW, hV, k1, k2, k3, k4, by omega, k6, by omega⟩
/-- tokens go on -/
theorem PE.mv (h : PE b n p e i op D code code' vs cl W cu fs t s) (hq : pR b n i' op' t' s') (hi : i ≤ i') (g : gL eP a0 t t') (f : fPs s s') : PE b n p e i' op' (D + (i' - i)) code code' vs cl W cu fs t' s' ∧ FR p e t t' s s' := by
  obtain ⟨h1, hc, hr, hw, hW, hV, k1, k2, k3, k4, k5, k6, k7⟩ := h
  have hp := hc.2.1
  exact ⟨⟨hq, hc.keep g (by rcases hp with z | z <;> subst z <;> omega) (fun _ z => z.elim) (g.p21 (by omega)), hr.keep (f.1 12 (by omega)) (f.1 28 (by omega)) (fun q _ => f.2.2.1 q (fun z => z)), hw, hW.keep (f.1 44 (by omega)) (fun q _ => f.2.2.1 q (fun z => z)) (f.2.2.2 42 (fun z => z)), hV.keep (g.1 2 4 (by omega)) (g.2.2.1 7 (fun z => z) (by decide)).2.1 (f.1 22 (by omega)) (f.2.2.2 21 (fun z => z)), k1.keep g (by omega) (fun _ z => z.elim), k2.keep (f.1 29 (by omega)) (fun q _ => f.2.2.1 q (fun z => z)) (f.2.2.2 33 (fun z => z)), k3, k4, by omega, k6, by omega⟩, g.mono eP_Q (fun _ z => z.elim), fPs.Q f⟩
/-- a sign that opens nothing -/
theorem PE.sgn {c : Nat} (hN : 170000 ≤ N) (h : PE b n p e i op D code code' vs cl W cu fs t s) (hc : c = 41 ∨ c = 93 ∨ c = 125 ∨ c = 59 ∨ c = 44 ∨ c = 61) (ho1 : c = 41 ∨ c = 93 ∨ c = 125 → 1 ≤ op) : (∃ t' s', cf_201 N X (Int32.ofNat c) t = some (t', .inl none) ∧ mf_267 N (Int32.ofNat c) s = some (s', none) ∧ (∃ hi : i < (TL b n).length, (TL b n)[i].1 = c) ∧ PE b n p e (i + 1) (if c = 41 ∨ c = 93 ∨ c = 125 then op - 1 else op) (D + 1) code code' vs cl W cu fs t' s' ∧ FR p e t t' s s' ∧ fPs s s') ∨ (∃ t' s', cf_201 N X (Int32.ofNat c) t = some (t', .inr ()) ∧ mf_267 N (Int32.ofNat c) s = some (s', none) ∧ pF t' s' ∧ FX p e t t' s s' ∧ fPs s s') := by
  rcases p_sign (N := N) (X := X) hN h.1 hc ho1 with ⟨t', s', a1, a2, a3, a4, a5, a6⟩ | ⟨t', s', a1, a2, a3, a4, a5⟩
  · obtain ⟨b1, b2⟩ := h.mv a4 (Nat.le_succ i) a5 a6
    exact Or.inl ⟨t', s', a1, a2, a3, by rw [show D + 1 = D + (i + 1 - i) by omega]; exact b1, b2, a6⟩
  · exact Or.inr ⟨t', s', a1, a2, a3, ⟨a4.mono eP_Q (fun _ z => z.elim), fPs.Q a5, h.oB.kp (a5.1 28 (by omega)), h.szF a4⟩, a5⟩
/-- a sign that opens -/
theorem PE.opn {c : Nat} (hN : 170000 ≤ N) (h : PE b n p e i op D code code' vs cl W cu fs t s) (hc : c = 40 ∨ c = 91 ∨ c = 123) : (∃ t' s', cf_201 N X (Int32.ofNat c) t = some (t', .inl none) ∧ mf_268 N (Int32.ofNat c) s = some (s', none) ∧ (∃ hi : i < (TL b n).length, (TL b n)[i].1 = c) ∧ op < 10 ∧ PE b n p e (i + 1) (op + 1) (D + 1) code code' vs cl W cu fs t' s' ∧ FR p e t t' s s') ∨ (∃ t' s', cf_201 N X (Int32.ofNat c) t = some (t', .inr ()) ∧ mf_268 N (Int32.ofNat c) s = some (s', none) ∧ pF t' s' ∧ FX p e t t' s s' ∧ fPs s s') := by
  rcases p_opens (N := N) (X := X) hN h.1 hc with ⟨t', s', a1, a2, a3, ao, a4, a5, a6⟩ | ⟨t', s', a1, a2, a3, a4, a5⟩
  · obtain ⟨b1, b2⟩ := h.mv a4 (Nat.le_succ i) a5 a6
    exact Or.inl ⟨t', s', a1, a2, a3, ao, by rw [show D + 1 = D + (i + 1 - i) by omega]; exact b1, b2⟩
  · exact Or.inr ⟨t', s', a1, a2, a3, ⟨a4.mono eP_Q (fun _ z => z.elim), fPs.Q a5, h.oB.kp (a5.1 28 (by omega)), h.szF a4⟩, a5⟩
/-- a variable is named -/
theorem PE.nam (hN : 170000 ≤ N) (h : PE b n p e i op D code code' vs cl W cu fs t s) : (∃ r t' s' vs', cf_195 N X t = some (t', .inl (some (.int (cv r)))) ∧ mf_275 N s = some (s', some (.int (Int32.ofNat r))) ∧ (∃ hi : i < (TL b n).length, ck (TL b n)[i] = 3) ∧ PE b n p e (i + 1) op (D + 1) code code' vs' cl W cu fs t' s' ∧ r < 8 + vs'.length ∧ FR p e t t' s s') ∨ (∃ t' s', cf_195 N X t = some (t', .inr ()) ∧ mf_275 N s = some (s', some (.int 0)) ∧ pF t' s' ∧ FX p e t t' s s' ∧ fV s s') := by
  have hoB := h.oB
  have hz : ∀ {t'}, gX eP a0 t t' → SZ p t' := fun g => h.szF g
  obtain ⟨h1, hc, hr, hw, hW, hV, k1, k2, k3, k4, k5, k6, k7⟩ := h
  have hp := hc.2.1
  rcases p_name (N := N) (X := X) hN h1 hV with ⟨r, t', s', vs', a1, a2, a3, a4, a5, a6, ⟨l, a7⟩, g, f⟩ | ⟨t', s', a1, a2, a3, a4, a5⟩
  · refine Or.inl ⟨r, t', s', vs', a1, a2, a3, ⟨a4, hc.keep g (by rcases hp with z | z <;> subst z <;> omega) (fun _ z => by rcases hp with y | y <;> omega) (g.p21 (by omega)), hr.keep (f.1 12 (by omega)) (f.1 28 (by omega)) (fun q _ => f.2.2.1 q (fun z => z)), hw, hW.keep (f.1 44 (by omega)) (fun q _ => f.2.2.1 q (fun z => z)) (f.2.2.2 42 (by omega)), a5, k1.keep g (by omega) (fun _ z => by omega), k2.keep (f.1 29 (by omega)) (fun q _ => f.2.2.1 q (fun z => z)) (f.2.2.2 33 (by omega)), k3, k4.mono (by rw [a7, List.length_append]; omega), by omega, k6, by omega⟩, a6, g.mono eV_Q (fun _ z => Or.inl z), fV.Q f⟩
  · exact Or.inr ⟨t', s', a1, a2, a3, ⟨a4.mono eP_Q (fun _ z => z.elim), fV.Q a5, hoB.kp (a5.1 28 (by omega)), hz a4⟩, a5⟩
/-- what the class has written -/
theorem cK_app {c : Ins} {x : Cn} (h : x.1 < code.length) : cK (code ++ [c]) x = cK code x := by
  unfold cK
  rw [posC_app (Nat.le_of_lt h)]
theorem rK_app {c : Ins} {x : Cn} (h : x.1 < code.length) : rK e (code ++ [c]) x = rK e code x := by
  unfold rK
  rw [posR_app (Nat.le_of_lt h)]
abbrev tgO (l : Nat) (c : Ins) : Prop := c.2.1 = unk ∨ c.2.1 ≤ l ∨ ¬ (c.1 = 13 ∨ c.1 = 14 ∨ c.1 = 18 ∨ c.1 = 23 ∨ c.1 = 24)
theorem PEg.cEm {c : Ins} {cp : List Cn} {js : Nat} (h : PEg b n p e i op D code code' vs cl cp W cu fs t s) (hcv : c.1 = 9 ∨ c.1 = 10 → ∃ x ∈ cp, x.1 = code.length) (hjs : (js = fs.2.1 ∧ noJ c) ∨ js = code.length + 1) (hc : tgO code.length c) (he : eff c cu = some cu') (ho : okI vs.length c) (hd : cCd t' p (CA code ++ cI code (posC code code.length) c)) (g : gL (eC p) (aC p) t t') (gl : kL t' = kL t) (hD : D' + 1 ≤ D) (hD2 : rlen c + xlen c ≤ 1 ∨ D' + (rlen c + xlen c) ≤ D) : PEg b n p e i op D' (code ++ [c]) code' vs cl cp W cu' (fs.1, js, fs.2.2) t' s ∧ FR p e t t' s s := by
  obtain ⟨h1, hc', hr, ⟨w1, w2, ⟨fl, w3⟩⟩, hW, hV, k1, k2, k3, k4, k5, k6, k7⟩ := h
  have hp := hc'.2.1
  have r2 : rlen c ≤ 2 := by unfold rlen; split <;> (try split) <;> omega
  have r3 : clen c ≤ 3 := by unfold clen; split <;> (try split) <;> (try split) <;> omega
  have e1 : cl.map (cK (code ++ [c])) = cl.map (cK code) := List.map_congr_left fun x hx => cK_app (k3.1 x hx).1
  have e2 : cl.map (rK e (code ++ [c])) = cl.map (rK e code) := List.map_congr_left fun x hx => rK_app (k3.1 x hx).1
  refine ⟨⟨h1.kC g gl (fun k f z => by rcases hp with y | y <;> omega) (fun k z => by rcases hp with y | y <;> omega), by rw [CA_app w1 hc]; exact hd, hr, ⟨wfC_app w1 (by rcases hc with z | z | z; exact Or.inl z; exact Or.inr (Or.inl (by omega)); exact Or.inr (Or.inr z)), w2, ⟨fl ++ [c], by rw [w3, List.append_assoc]⟩⟩, hW, hV.keep (g.1 2 4 (fun z => by rcases hp with y | y <;> omega)) (g.2.2.1 7 (fun z => by rcases hp with y | y <;> omega) (by decide)).2.1 rfl rfl, by rw [e1]; exact k1.keep g (fun z => by rcases hp with y | y <;> omega) (fun _ z => by rcases hp with y | y <;> omega), by rw [e2]; exact k2, k3.app hcv, k4.app (Nat.le_refl _) he ho hjs, by rw [rl_app, rl_one, xl_app, xl_one]; omega, by rw [rl_app]; omega, by rw [cx_app, cx_one]; omega⟩, g.mono (fun k f z => Or.inr (Or.inr z)) (fun k z => by unfold aQ; omega), fQ.rf⟩
theorem PE.cEm {c : Ins} (h : PE b n p e i op D code code' vs cl W cu fs t s) (hc : tgO code.length c) (he : eff c cu = some cu') (ho : okI vs.length c) (hd : cCd t' p (CA code ++ cI code (posC code code.length) c)) (g : gL (eC p) (aC p) t t') (gl : kL t' = kL t) (hD : D' + 1 ≤ D) (hD2 : rlen c + xlen c ≤ 1 ∨ D' + (rlen c + xlen c) ≤ D) (hx : xp c := by unfold xp noJ; simp) : PE b n p e i op D' (code ++ [c]) code' vs cl W cu' fs t' s ∧ FR p e t t' s s := PEg.cEm h (fun z => absurd z hx.1) (Or.inl ⟨rfl, hx.2⟩) hc he ho hd g gl hD hD2
/-- what the reference has written -/
theorem PEg.rEm {c : Ins} {cp : List Cn} {fl : List Ins} (h : PEg b n p e i op D code code' vs cl cp W cu fs t s) (hc : tgO code'.length c) (hf : code = code' ++ c :: fl) (hd : rCd s' e (RA e code' ++ rI e code' c)) (f : fO e s s') : PEg b n p e i op D code (code' ++ [c]) vs cl cp W cu fs t s' ∧ FR p e t t s s' := by
  obtain ⟨h1, hc', hr, ⟨w1, w2, w3⟩, hW, hV, k1, k2, k3, k4, k5, k6, k7⟩ := h
  refine ⟨⟨h1.kR (fun q z => f.1 q (by omega)) (f.2.1 7) (f.2.2.1 2 (by omega)) (f.2.2.2.1 0), hc', by rw [RA_app w2 hc]; exact hd, ⟨w1, wfC_app w2 (by rcases hc with z | z | z; exact Or.inl z; exact Or.inr (Or.inl (by omega)); exact Or.inr (Or.inr z)), ⟨fl, by rw [hf, List.append_assoc]; rfl⟩⟩, hW.keep (f.1 44 (by omega)) (fun q _ => f.2.2.1 q (by omega)) (f.2.2.2.1 42), hV.keep rfl rfl (f.1 22 (by omega)) (f.2.2.2.1 21), k1, k2.keep (f.1 29 (by omega)) (fun q _ => f.2.2.1 q (by omega)) (f.2.2.2.1 33), k3, k4, k5, k6, k7⟩, gL.rf, fO.Q f⟩
theorem PE.rEm {c : Ins} {fl : List Ins} (h : PE b n p e i op D code code' vs cl W cu fs t s) (hc : tgO code'.length c) (hf : code = code' ++ c :: fl) (hd : rCd s' e (RA e code' ++ rI e code' c)) (f : fO e s s') : PE b n p e i op D code (code' ++ [c]) vs cl W cu fs t s' ∧ FR p e t t s s' := PEg.rEm h hc hf hd f
/-- what waits -/
theorem PE.wt (h : PE b n p e i op D code code' vs cl W cu fs t s) (hd : rW s' W') (f : fW s s') : PE b n p e i op D code code' vs cl W' cu fs t s' ∧ FR p e t t s s' := by
  obtain ⟨h1, hc', hr, hw, hW, hV, k1, k2, k3, k4, k5, k6, k7⟩ := h
  exact ⟨⟨h1.kR (fun q z => f.1 q (by omega)) (f.2.1 7 (fun z => z)) (f.2.2.1 2 (by omega)) (f.2.2.2 0 (by omega)), hc', hr.keep (f.1 12 (by omega)) (f.1 28 (by omega)) (fun q _ => f.2.2.1 q (by omega)), hw, hd, hV.keep rfl rfl (f.1 22 (by omega)) (f.2.2.2 21 (by omega)), k1, k2.keep (f.1 29 (by omega)) (fun q _ => f.2.2.1 q (by omega)) (f.2.2.2 33 (by omega)), k3, k4, k5, k6, k7⟩, gL.rf, fW.Q f ⟨_, hd⟩⟩
end MOV
end
-- ### 89r.pure.lean.txt
section
/-! ===== PURE: the reference's rounds over an expression (1): what waits is written ===== -/
/-- the reference's round -/
abbrev LL (N f : Nat) (al h : Int32) (s : mS) : mO := mf_285_L3 N f 0 al h s
def twI (z : Nat × Nat) : Ins := (5, 0, z.1, 0, Int32.ofNat z.2, 0, 0)
def ahI : Option (Nat × Nat) → List Ins
  | none => []
  | some z => [(if z.1 = 45 then 3 else 4, 0, 0, 0, Int32.ofNat z.2, 0, 0)]
def ahW : Option (Nat × Nat) → List Wt
  | none => []
  | some z => [(2, z.1, 0, z.2, 0, 0)]
def okA : Option (Nat × Nat) → Prop
  | none => True
  | some z => z.1 = 45 ∨ z.1 = 33
/-- what stands below: nothing, a bracket, a sign that binds looser -/
def HW (l : Nat) (W : List Wt) : Prop := W = [] ∨ ∃ W' w, W = W' ++ [w] ∧ (3 ≤ w.1 ∨ ∃ z : Nat × Nat, w = bt z ∧ okS z.1 ∧ lv z.1 < l)
theorem HW.mono {l l' : Nat} {W : List Wt} (h : HW l W) (hl : l ≤ l') : HW l' W := by
  rcases h with h | ⟨W', w, h1, h2 | ⟨z, h2, h3, h4⟩⟩
  · exact Or.inl h
  · exact Or.inr ⟨W', w, h1, Or.inl h2⟩
  · exact Or.inr ⟨W', w, h1, Or.inr ⟨z, h2, h3, by omega⟩⟩
theorem HW.stp {l : Nat} {W : List Wt} (h : HW l W) : stp l W := by
  rcases h with h | ⟨W', w, h1, h2 | ⟨z, h2, h3, h4⟩⟩
  · exact Or.inl h
  · exact Or.inr ⟨W', w, h1, Or.inl (by omega)⟩
  · exact Or.inr ⟨W', w, h1, Or.inr ⟨z, h2, h3, h4⟩⟩
section RND
variable {N : Nat} {X : Nat → Option zz_C} {t t' : cS} {s s' : mS} {b : Nat → Nat} {n p e i op D : Nat} {code code1 code2 fl : List Ins} {vs : List (List Nat)} {cl : List Cn} {W W' : List Wt} {cu : List Nat} {fs : Nat × Nat × Nat} {al : Int32} {Z : List (Nat × Nat)} {ah : Option (Nat × Nat)}
theorem RA_tw : ∀ (l : List (Nat × Nat)) {code : List Ins}, wfC code → RA e (code ++ l.map twI) = RA e code ++ l.map od ∧ wfC (code ++ l.map twI)
  | [], code, h => by
    show RA e (code ++ []) = RA e code ++ [] ∧ wfC (code ++ [])
    rw [List.append_nil, List.append_nil]
    exact ⟨rfl, h⟩
  | z :: l, code, h => by
    have h1 : wfC (code ++ [twI z]) := wfC_app h (Or.inr (Or.inl (Nat.zero_le _)))
    obtain ⟨i1, i2⟩ := RA_tw l h1
    have e1 : code ++ (z :: l).map twI = (code ++ [twI z]) ++ l.map twI := by
      rw [List.append_assoc]
      rfl
    rw [e1, i1, RA_app h (Or.inr (Or.inl (Nat.zero_le _))), List.append_assoc]
    exact ⟨rfl, i2⟩
theorem rl_tw : ∀ (l : List (Nat × Nat)), rl (l.map twI) = l.length
  | [] => rfl
  | z :: l => by
    have := rl_tw l
    show rl ([twI z] ++ l.map twI) = _
    rw [rl_app, this, rl_one, List.length_cons]
    show 1 + l.length = l.length + 1
    omega
/-- orders and waits changed, nothing else -/
def fOW (e : Nat) (s s' : mS) : Prop := (∀ q, ¬ (q = 44 ∨ q = 28) → s'.1 q = s.1 q) ∧ (∀ q, s'.2.1 q = s.2.1 q) ∧ (∀ q, ¬ (q = 23 ∨ q = 24 ∨ q = 25 ∨ q = 26 ∨ q = 27 ∨ q = 38 ∨ q = 39 ∨ q = 40 ∨ q = 41 ∨ q = 43) → s'.2.2.1 q = s.2.2.1 q) ∧ (∀ q, ¬ q = 42 → s'.2.2.2 q = s.2.2.2 q) ∧ ∀ q y, (q = 23 ∨ q = 24 ∨ q = 25 ∨ q = 26 ∨ q = 27) → (y < ob0 e ∨ ob0 e + 4000 ≤ y) → s'.2.2.1 q y = s.2.2.1 q y
theorem PE.rw2 (h : PE b n p e i op D code code1 vs cl W cu fs t s) (h1 : rCd s' e (RA e code2)) (h2 : rW s' W') (f : fOW e s s') (hw : wfC code2) (hf : code = code2 ++ fl) : PE b n p e i op D code code2 vs cl W' cu fs t s' ∧ FR p e t t s s' := by
  obtain ⟨g1, hc', hr, ⟨w1, w2, w3⟩, hW, hV, k1, k2, k3, k4, k5, k6, k7⟩ := h
  exact ⟨⟨g1.kR (fun q z => f.1 q (by omega)) (f.2.1 7) (f.2.2.1 2 (by omega)) (f.2.2.2.1 0 (by omega)), hc', h1, ⟨w1, hw, ⟨fl, hf⟩⟩, h2, hV.keep rfl rfl (f.1 22 (by omega)) (f.2.2.2.1 21 (by omega)), k1, k2.keep (f.1 29 (by omega)) (fun q _ => f.2.2.1 q (by omega)) (f.2.2.2.1 33 (by omega)), k3, k4, k5, k6, k7⟩, gL.rf, ⟨fun q r => f.1 q (by omega), fun q _ => f.2.1 q, fun q r => f.2.2.1 q (by omega), fun q r => f.2.2.2.1 q (by omega), fun q y r1 r2 => f.2.2.2.2 q y r1 r2, fun _ => ⟨_, h2⟩⟩⟩
theorem PEg.rle {cp : List Cn} (h : PEg b n p e i op D code code1 vs cl cp W cu fs t s) : rl code ≤ 1601 := by
  have h1 := h.2.2.2.2.2.2.2.2.2.2.1
  obtain ⟨hi, e5, e6, e7, hk, ho, he, hlt, hll⟩ := h.1.now
  omega
theorem PE.rle (h : PE b n p e i op D code code1 vs cl W cu fs t s) : rl code ≤ 1601 := PEg.rle h
/-- signs are written -/
theorem PE.rd {l : Nat} (hN : 170000 ≤ N) (h : PE b n p e i op D code code1 vs cl (W ++ Z.map bt) cu fs t s) (hl : l ≤ 3) (hs : stp l W) (hz : ∀ z ∈ Z, okS z.1 ∧ l ≤ lv z.1 ∧ lv z.1 ≤ 3) (hf : code = code1 ++ Z.reverse.map twI ++ fl) : ∃ s', mf_284 N (Int32.ofNat l) s = some (s', none) ∧ PE b n p e i op D code (code1 ++ Z.reverse.map twI) vs cl W cu fs t s' ∧ FR p e t t s s' := by
  have h1 := h.rle
  have h2 : rl code = rl code1 + Z.length + rl fl := by
    rw [hf, rl_app, rl_app, rl_tw, List.length_reverse]
  have h3 := h.2.2.2.2.1.2.1
  rw [List.length_append, List.length_map] at h3
  obtain ⟨s', a1, a2, a3, a4, a5, a6⟩ := r_reduce (N := N) (e := e) hl hs Z (N - (Z.length + 1)) s (RA e code1) h.2.2.2.2.1 h.2.2.1 (by rw [RA_len]; omega) hz
  rw [show N - (Z.length + 1) + (Z.length + 1) = N by omega] at a1
  obtain ⟨t1, t2⟩ := RA_tw (e := e) Z.reverse h.2.2.2.1.2.1
  obtain ⟨c1, c2⟩ := h.rw2 (s' := s') (code2 := code1 ++ Z.reverse.map twI) (W' := W) (by rw [t1]; exact a3) a2 ⟨a5, a6.2.1, fun q r => a6.2.2.1 q (by omega), fun q _ => a6.2.2.2.1 q, fun q y _ r => a6.2.2.2.2 q y r⟩ t2 hf
  exact ⟨s', a1, c1, c2⟩
/-- a sign ahead is written -/
theorem PE.ahf (h : PE b n p e i op D code code1 vs cl (W ++ ahW ah) cu fs t s) (hA : okA ah) (hf : code = code1 ++ ahI ah ++ fl) (hn : ∀ W' w, W = W' ++ [w] → ¬ w.1 = 2) : ∃ s', (∀ rc, mf_285_70 N rc al s = mf_285_113 N rc al s') ∧ PE b n p e i op D code (code1 ++ ahI ah) vs cl W cu fs t s' ∧ FR p e t t s s' := by
  cases ah with
  | none =>
    have h : PE b n p e i op D code code1 vs cl (W ++ []) cu fs t s := h
    rw [List.append_nil] at h
    refine ⟨s, fun rc => ?_, by show PE b n p e i op D code (code1 ++ []) vs cl W cu fs t s; rw [List.append_nil]; exact h, FR.rf⟩
    rcases List.eq_nil_or_concat W with c | ⟨W', w, c⟩
    · subst c
      have i0 := r_isW0 (N := N) (k := 2) h.2.2.2.2.1
      unfold mf_285_70 mf_285_75
      simp (disch := omega) only [ev_S, ev_P, ↓reduceIte, Nat.reduceEqDiff, Nat.reduceLeDiff, Nat.reduceAdd, Nat.reduceMul, Nat.reduceSub, reduceCtorEq, l32_0, l32_1, l32_2, l32_3, l32_4, l32_5, l32_6, l32_7, l32_8, l32_9, l32_10, i0]
    · rw [List.concat_eq_append] at c
      have h5 := h.2.2.2.2.1
      rw [c] at h5
      have i0 := r_isW (N := N) (k := 2) h5 (by decide)
      rw [if_neg (hn W' w c)] at i0
      unfold mf_285_70 mf_285_75
      simp (disch := omega) only [ev_S, ev_P, ↓reduceIte, Nat.reduceEqDiff, Nat.reduceLeDiff, Nat.reduceAdd, Nat.reduceMul, Nat.reduceSub, reduceCtorEq, l32_0, l32_1, l32_2, l32_3, l32_4, l32_5, l32_6, l32_7, l32_8, l32_9, l32_10, i0]
  | some z =>
    have hz : z.1 = 45 ∨ z.1 = 33 := hA
    have h5 : rW s (W ++ [(2, z.1, 0, z.2, 0, 0)]) := h.2.2.2.2.1
    have i0 := r_isW (N := N) (k := 2) h5 (by decide)
    rw [if_pos rfl] at i0
    have h5' := h5
    obtain ⟨h1, h2, h3⟩ := h5'
    have ll : (W ++ [(2, z.1, 0, z.2, (0 : Int64), 0)]).length = W.length + 1 := List.length_append
    rw [ll] at h1 h2
    obtain ⟨q1, q2, q3, q4, q5, q6⟩ := h3 W.length (by rw [ll]; omega)
    rw [List.getElem_append_right (Nat.le_refl _)] at q2 q4
    simp only [Nat.sub_self, List.getElem_cons_zero] at q2 q4
    have hr := h.rle
    have hlen : rl code = rl code1 + rl (ahI (some z)) + rl fl := by
      rw [hf, rl_app, rl_app]
    obtain ⟨s1, a1, a2, a3⟩ := r_order (N := N) (x1 := Int32.ofNat 4) (x2 := Int32.ofNat z.1) (x3 := Int32.ofNat 0) (x4 := Int32.ofNat z.2) (rCd.pop (x := Int32.ofNat W.length) h.2.2.1) (by rw [RA_len]; omega)
    have eI : rI e code1 (if z.1 = 45 then 3 else 4, 0, 0, 0, Int32.ofNat z.2, 0, 0) = [(Int32.ofNat 4, Int32.ofNat z.1, Int32.ofNat 0, 0, Int32.ofNat z.2)] := by
      rcases hz with z1 | z1 <;> rw [z1] <;> rfl
    have tg : tgO code1.length (if z.1 = 45 then 3 else 4, 0, 0, 0, Int32.ofNat z.2, 0, 0) := Or.inr (Or.inl (Nat.zero_le _))
    have hw := h.2.2.2.1.2.1
    have hp := h5.pop
    obtain ⟨c1, c2⟩ := h.rw2 (s' := s1) (code2 := code1 ++ ahI (some z)) (W' := W) (fl := fl) (by show rCd s1 e (RA e (code1 ++ [_])); rw [RA_app hw tg, eI]; exact a2) (hp.keep (a3.1 44 (by omega)) (fun q _ => a3.2.2.1 q (by omega)) (a3.2.2.2.1 42)) ⟨fun q r => (a3.1 q (by omega)).trans (if_neg (by omega)), a3.2.1, fun q r => a3.2.2.1 q (by omega), fun q _ => a3.2.2.2.1 q, fun q y _ r => a3.2.2.2.2 q y r⟩ (wfC_app hw (Or.inr (Or.inl (Nat.zero_le _)))) hf
    refine ⟨s1, fun rc => ?_, c1, c2⟩
    unfold mf_285_70 mf_285_75 mf_285_78 mf_285_112
    simp (disch := omega) only [ev_S, ev_P, ↓reduceIte, Nat.reduceEqDiff, Nat.reduceLeDiff, Nat.reduceAdd, Nat.reduceMul, Nat.reduceSub, reduceCtorEq, l32_0, l32_1, l32_2, l32_3, l32_4, l32_5, l32_6, l32_7, l32_8, l32_9, l32_10, i0, h1, q2, q4, a1]
end RND
end
-- ### 89s.pure.lean.txt
section
/-! ===== PURE: the reference's rounds over an expression (2): a sign, the end ===== -/
section RNE
variable {N : Nat} {X : Nat → Option zz_C} {t t' : cS} {s s' : mS} {b : Nat → Nat} {n p e i op D : Nat} {code code1 code2 fl : List Ins} {vs : List (List Nat)} {cl : List Cn} {W W' : List Wt} {cu : List Nat} {fs : Nat × Nat × Nat} {al : Int32} {Z : List (Nat × Nat)} {ah : Option (Nat × Nat)}
theorem w_last {w : Wt} (h : rW s (W ++ [w])) : s.1 44 = Int32.ofNat (W.length + 1) ∧ W.length + 1 ≤ 80 ∧ s.2.2.1 38 W.length = Int32.ofNat w.1 ∧ s.2.2.1 39 W.length = Int32.ofNat w.2.1 ∧ s.2.2.1 40 W.length = Int32.ofNat w.2.2.1 ∧ s.2.2.1 41 W.length = Int32.ofNat w.2.2.2.1 ∧ w.1 ≤ 8 ∧ (6 ≤ w.1 → s.2.2.2 42 W.length = w.2.2.2.2.1 ∧ s.2.2.1 43 W.length = Int32.ofNat w.2.2.2.2.2) := by
  obtain ⟨h1, h2, h3⟩ := h
  have ll : (W ++ [w]).length = W.length + 1 := List.length_append
  rw [ll] at h1 h2
  have h4 := h3 W.length (by rw [ll]; omega)
  rw [List.getElem_append_right (Nat.le_refl _)] at h4
  simp only [Nat.sub_self, List.getElem_cons_zero] at h4
  exact ⟨h1, h2, h4⟩
/-- a sign between -/
theorem PE.sg {l : Nat} (hN : 170000 ≤ N) (h : PE b n p e i op D code code1 vs cl (W ++ Z.map bt) cu fs t s) (hl : l ≤ 3) (hk : ∀ hi : i < (TL b n).length, lv (TL b n)[i].1 = l) (hs : HW l W) (hz : ∀ z ∈ Z, okS z.1 ∧ l ≤ lv z.1 ∧ lv z.1 ≤ 3 ∧ (l = 1 → 2 ≤ lv z.1)) (hf : code = code1 ++ Z.reverse.map twI) (hW8 : W.length < 80) : ∃ t' s', cf_46 N X t = some (t', .inl none) ∧ (∀ f, mf_285_113 N (mf_285_L3 N f) al s = LL N f al 0 s') ∧ (∃ hi : i < (TL b n).length, PE b n p e (i + 1) op (D + 1) code code vs cl (W ++ [bt ((TL b n)[i].1, (TL b n)[i].2.2.2.1)]) cu fs t' s') ∧ FR p e t t' s s' := by
  obtain ⟨hi, e5, e6, e7, hkk, ho, he, hlt, hll⟩ := h.1.now
  have hk := hk hi
  have hsg : 33 ≤ (TL b n)[i].1 := by
    unfold lv at hk
    repeat' split at hk
    all_goals omega
  have hok := TL_sg hi hsg
  obtain ⟨x1, x2, x3, x4, x5, x6⟩ : s.1 6 = Int32.ofNat (TL b n)[i].2.2.2.1 ∧ s.1 8 = Int32.ofNat (TL b n)[i].2.2.2.2 ∧ 33 ≤ (TL b n)[i].1 ∧ (TL b n)[i].1 < 512 ∧ s.1 5 = Int32.ofNat 3 ∧ s.2.1 7 = Int64.ofNat (sgv (TL b n)[i].1) := by
    obtain ⟨y1, y2, y3 | y3 | y3 | y3 | y3⟩ := hkk
    · omega
    · omega
    · omega
    · omega
    · exact ⟨y1, y2, y3.1, y3.2.1, y3.2.2.1, y3.2.2.2⟩
  have l0 := r_levelOf (N := N) (s := s) hok
  have el : lvI (TL b n)[i].1 = Int32.ofNat l := by
    unfold lvI
    rw [hk, if_neg (by omega)]
  rw [el] at l0
  obtain ⟨s1, a1, a2, a3⟩ := PE.rd (N := N) (l := if l = 1 then 2 else l) (fl := []) hN h (by split <;> omega) ((hs.mono (by split <;> omega)).stp) (fun z hh => ⟨(hz z hh).1, by have := (hz z hh).2; split <;> omega, (hz z hh).2.2.1⟩) (by rw [List.append_nil]; exact hf)
  rw [← hf] at a2
  obtain ⟨hi1, _, _, _, hk1, _, _, _, _⟩ := a2.1.now
  obtain ⟨z1, z6⟩ : s1.1 6 = Int32.ofNat (TL b n)[i].2.2.2.1 ∧ s1.2.1 7 = Int64.ofNat (sgv (TL b n)[i].1) := by
    obtain ⟨y1, y2, y3 | y3 | y3 | y3 | y3⟩ := hk1
    · omega
    · omega
    · omega
    · omega
    · exact ⟨y1, y3.2.2.2⟩
  obtain ⟨s2, b1, b2, b3⟩ := r_wait (N := N) (k := 1) (a := sgv (TL b n)[i].1) (p := (TL b n)[i].2.2.2.1) a2.2.2.2.2.1 hW8 (by decide)
  obtain ⟨c1, c2⟩ := a2.wt b2 b3
  obtain ⟨t', s', d1, d2, d3, d4, d5⟩ := c1.adv (N := N) (X := X) hN (fun _ => by omega)
  refine ⟨t', s', d1, fun f => ?_, ⟨hi, d3⟩, a3.tr (c2.tr ⟨d4, d5⟩)⟩
  by_cases c : l = 1
  · subst c
    rw [if_pos rfl] at a1
    have tail : mf_285_161 N (mf_285_L3 N f) al s1 = mf_285_187 N (mf_285_L3 N f) al s1 := by
      rcases hs with rfl | ⟨W', w, rfl, h2 | ⟨z, rfl, h3, h4⟩⟩
      · have i0 := r_isW0 (N := N) (k := 1) a2.2.2.2.2.1
        unfold mf_285_161 mf_285_166
        simp (disch := omega) only [ev_S, ev_P, ↓reduceIte, Nat.reduceEqDiff, Nat.reduceLeDiff, Nat.reduceAdd, Nat.reduceMul, Nat.reduceSub, reduceCtorEq, l32_0, l32_1, l32_2, l32_3, l32_4, l32_5, l32_6, l32_7, l32_8, l32_9, l32_10, i0]
      · have i0 := r_isW (N := N) (k := 1) a2.2.2.2.2.1 (by decide)
        rw [if_neg (by omega)] at i0
        unfold mf_285_161 mf_285_166
        simp (disch := omega) only [ev_S, ev_P, ↓reduceIte, Nat.reduceEqDiff, Nat.reduceLeDiff, Nat.reduceAdd, Nat.reduceMul, Nat.reduceSub, reduceCtorEq, l32_0, l32_1, l32_2, l32_3, l32_4, l32_5, l32_6, l32_7, l32_8, l32_9, l32_10, i0]
      · have i0 := r_isW (N := N) (k := 1) a2.2.2.2.2.1 (by decide)
        rw [if_pos rfl] at i0
        obtain ⟨q0, q1, q2, q3, _⟩ := w_last a2.2.2.2.2.1
        have l1 := r_levelOf (N := N) (s := s1) h3
        have el : lvI z.1 = Int32.ofNat (lv z.1) := if_neg (by omega)
        rw [el] at l1
        unfold mf_285_161 mf_285_166 mf_285_169 mf_285_183
        simp (disch := omega) only [ev_S, ev_P, ↓reduceIte, Nat.reduceEqDiff, Nat.reduceLeDiff, Nat.reduceAdd, Nat.reduceMul, Nat.reduceSub, reduceCtorEq, l32_0, l32_1, l32_2, l32_3, l32_4, l32_5, l32_6, l32_7, l32_8, l32_9, l32_10, i0, q0, q3, l1]
    unfold mf_285_113 mf_285_121 mf_285_129 mf_285_133 mf_285_138 mf_285_144 mf_285_149 mf_285_152 mf_285_156
    simp (disch := omega) only [ev_S, ev_P, ↓reduceIte, Nat.reduceEqDiff, Nat.reduceLeDiff, Nat.reduceAdd, Nat.reduceMul, Nat.reduceSub, reduceCtorEq, l32_0, l32_1, l32_2, l32_3, l32_4, l32_5, l32_6, l32_7, l32_8, l32_9, l32_10, x5, x6, Int64.toInt32_ofNat', l0, a1, tail]
    unfold mf_285_187 mf_285_201 mf_285_205
    simp (disch := omega) only [ev_S, ev_P, ↓reduceIte, Nat.reduceEqDiff, Nat.reduceLeDiff, Nat.reduceAdd, Nat.reduceMul, Nat.reduceSub, reduceCtorEq, l32_0, l32_1, l32_2, l32_3, l32_4, l32_5, l32_6, l32_7, l32_8, l32_9, l32_10, z1, z6, Int64.toInt32_ofNat', b1, d2]
  · rw [if_neg c] at a1
    unfold mf_285_113 mf_285_121 mf_285_129 mf_285_133 mf_285_138 mf_285_148 mf_285_149 mf_285_152 mf_285_156
    simp (disch := omega) only [ev_S, ev_P, ↓reduceIte, Nat.reduceEqDiff, Nat.reduceLeDiff, Nat.reduceAdd, Nat.reduceMul, Nat.reduceSub, reduceCtorEq, l32_0, l32_1, l32_2, l32_3, l32_4, l32_5, l32_6, l32_7, l32_8, l32_9, l32_10, x5, x6, Int64.toInt32_ofNat', l0, a1, c]
    unfold mf_285_187 mf_285_201 mf_285_205
    simp (disch := omega) only [ev_S, ev_P, ↓reduceIte, Nat.reduceEqDiff, Nat.reduceLeDiff, Nat.reduceAdd, Nat.reduceMul, Nat.reduceSub, reduceCtorEq, l32_0, l32_1, l32_2, l32_3, l32_4, l32_5, l32_6, l32_7, l32_8, l32_9, l32_10, z1, z6, Int64.toInt32_ofNat', b1, d2]
/-- a sign of level 1 waits, and only such as bind closer behind it -/
def one1 (Z : List (Nat × Nat)) : Prop := ∃ Z1 z1 Z2, Z = Z1 ++ z1 :: Z2 ∧ lv z1.1 = 1 ∧ ∀ z ∈ Z2, 2 ≤ lv z.1
/-- the end of what an expression's brackets hold -/
theorem PE.fin (hN : 170000 ≤ N) (h : PE b n p e i op D code code1 vs cl (W ++ Z.map bt) cu fs t s) (hk : ∀ hi : i < (TL b n).length, lv (TL b n)[i].1 = 9 ∨ (lv (TL b n)[i].1 = 1 ∧ one1 Z)) (hs : HW 0 W) (hz : ∀ z ∈ Z, okS z.1 ∧ lv z.1 ≤ 3) (hf : code = code1 ++ Z.reverse.map twI) : ∃ s', (∀ rc, mf_285_113 N rc al s = mf_285_215 N rc al s') ∧ PE b n p e i op D code code vs cl W cu fs t s' ∧ FR p e t t s s' := by
  obtain ⟨hi, e5, e6, e7, hkk, ho, he, hlt, hll⟩ := h.1.now
  rcases hk hi with hq | ⟨hq, Z1, z1, Z2, rfl, o1, o2⟩
  · obtain ⟨s1, a1, a2, a3⟩ := PE.rd (N := N) (l := 0) (fl := []) hN h (by decide) hs.stp (fun z hh => ⟨(hz z hh).1, Nat.zero_le _, (hz z hh).2⟩) (by rw [List.append_nil]; exact hf)
    rw [← hf] at a2
    refine ⟨s1, fun rc => ?_, a2, a3⟩
    by_cases c : s.1 5 = Int32.ofNat 3
    · have hsg : 33 ≤ (TL b n)[i].1 ∧ s.2.1 7 = Int64.ofNat (sgv (TL b n)[i].1) := by
        obtain ⟨y1, y2, y3 | y3 | y3 | y3 | y3⟩ := hkk
        · exact absurd (c.symm.trans y3.2) (by decide)
        · exact absurd (c.symm.trans y3.2) (by decide)
        · exact absurd (c.symm.trans y3.2.1) (by decide)
        · exact absurd (c.symm.trans y3.2.1) (by decide)
        · exact ⟨y3.1, y3.2.2.2⟩
      have l0 := r_levelOf (N := N) (s := s) (TL_sg hi hsg.1)
      have el : lvI (TL b n)[i].1 = -Int32.ofNat 1 := if_pos hq
      rw [el] at l0
      have x6 := hsg.2
      have q1 : (-Int32.ofNat 1 < Int32.ofNat 0) = True := by decide
      unfold mf_285_113 mf_285_121 mf_285_129 mf_285_133 mf_285_152 mf_285_210
      simp (disch := omega) only [ev_S, ev_P, ↓reduceIte, Nat.reduceEqDiff, Nat.reduceLeDiff, Nat.reduceAdd, Nat.reduceMul, Nat.reduceSub, reduceCtorEq, l32_0, l32_1, l32_2, l32_3, l32_4, l32_5, l32_6, l32_7, l32_8, l32_9, l32_10, c, x6, Int64.toInt32_ofNat', l0, q1, a1]
    · have q1 : (-Int32.ofNat 1 < Int32.ofNat 0) = True := by decide
      unfold mf_285_113 mf_285_132 mf_285_133 mf_285_152 mf_285_210
      simp (disch := omega) only [ev_S, ev_P, ↓reduceIte, Nat.reduceEqDiff, Nat.reduceLeDiff, Nat.reduceAdd, Nat.reduceMul, Nat.reduceSub, reduceCtorEq, l32_0, l32_1, l32_2, l32_3, l32_4, l32_5, l32_6, l32_7, l32_8, l32_9, l32_10, c, q1, a1]
  · have hsg : 33 ≤ (TL b n)[i].1 := by
      unfold lv at hq
      repeat' split at hq
      all_goals omega
    obtain ⟨x5, x6⟩ : s.1 5 = Int32.ofNat 3 ∧ s.2.1 7 = Int64.ofNat (sgv (TL b n)[i].1) := by
      obtain ⟨y1, y2, y3 | y3 | y3 | y3 | y3⟩ := hkk
      · omega
      · omega
      · omega
      · omega
      · exact ⟨y3.2.2.1, y3.2.2.2⟩
    have l0 := r_levelOf (N := N) (s := s) (TL_sg hi hsg)
    have el : lvI (TL b n)[i].1 = Int32.ofNat 1 := by
      unfold lvI
      rw [hq, if_neg (by decide)]
    rw [el] at l0
    have hz1 := hz z1 (by simp)
    have eW : W ++ (Z1 ++ z1 :: Z2).map bt = ((W ++ Z1.map bt) ++ [bt z1]) ++ Z2.map bt := by simp
    have eC : (Z1 ++ z1 :: Z2).reverse.map twI = Z2.reverse.map twI ++ (Z1 ++ [z1]).reverse.map twI := by simp
    rw [eW] at h
    rw [eC] at hf
    obtain ⟨s1, a1, a2, a3⟩ := PE.rd (N := N) (l := 2) (fl := (Z1 ++ [z1]).reverse.map twI) hN h (by decide) (Or.inr ⟨W ++ Z1.map bt, bt z1, rfl, Or.inr ⟨z1, rfl, hz1.1, by omega⟩⟩) (fun z hh => ⟨(hz z (by simp [hh])).1, o2 z hh, (hz z (by simp [hh])).2⟩) (by rw [hf, List.append_assoc])
    have i0 := r_isW (N := N) (k := 1) a2.2.2.2.2.1 (by decide)
    rw [if_pos rfl] at i0
    obtain ⟨q0, q1, q2, q3, _⟩ := w_last a2.2.2.2.2.1
    have l1 := r_levelOf (N := N) (s := s1) hz1.1
    have el1 : lvI z1.1 = Int32.ofNat 1 := by
      unfold lvI
      rw [o1, if_neg (by decide)]
    rw [el1] at l1
    have eW2 : (W ++ Z1.map bt) ++ [bt z1] = W ++ (Z1 ++ [z1]).map bt := by simp
    rw [eW2] at a2
    have ll0 : (W ++ Z1.map bt).length = W.length + Z1.length := by simp
    obtain ⟨s2, b1, b2, b3⟩ := PE.rd (N := N) (l := 0) (fl := []) hN a2 (by decide) hs.stp (fun z hh => ⟨(hz z (by simp at hh ⊢; rcases hh with x | x; exact Or.inl x; exact Or.inr (Or.inl x))).1, Nat.zero_le _, (hz z (by simp at hh ⊢; rcases hh with x | x; exact Or.inl x; exact Or.inr (Or.inl x))).2⟩) (by rw [List.append_nil, hf, List.append_assoc])
    rw [List.append_assoc, ← hf] at b2
    refine ⟨s2, fun rc => ?_, b2, a3.tr b3⟩
    unfold mf_285_113 mf_285_121 mf_285_129 mf_285_133 mf_285_138 mf_285_144 mf_285_149 mf_285_152 mf_285_156 mf_285_161 mf_285_166 mf_285_169 mf_285_183 mf_285_210
    simp (disch := omega) only [ev_S, ev_P, ↓reduceIte, Nat.reduceEqDiff, Nat.reduceLeDiff, Nat.reduceAdd, Nat.reduceMul, Nat.reduceSub, reduceCtorEq, l32_0, l32_1, l32_2, l32_3, l32_4, l32_5, l32_6, l32_7, l32_8, l32_9, l32_10, x5, x6, Int64.toInt32_ofNat', l0, a1, i0, q0, q3, l1, b1]
/-- rounds -/
theorem LL_f {f : Nat} {x : Nat} {h : Int32} (h9 : s.1 9 = Int32.ofNat x) (hx : 1 ≤ x ∧ x ≤ 6) : LL N (f + 1) al h s = some (s, none) := by
  show mf_285_7 N (mf_285_L3 N f) al h s = _
  unfold mf_285_7 mf_285_231
  simp (disch := omega) only [ev_S, ev_P, ↓reduceIte, Nat.reduceEqDiff, Nat.reduceLeDiff, Nat.reduceAdd, Nat.reduceMul, Nat.reduceSub, reduceCtorEq, l32_0, l32_1, l32_2, l32_3, l32_4, l32_5, l32_6, l32_7, l32_8, l32_9, l32_10, h9]
theorem LL_0 {f : Nat} (h9 : s.1 9 = Int32.ofNat 0) : LL N (f + 1) al (Int32.ofNat 0) s = mo_bi (mf_286 N s) (fun s1 y => LL N f al y s1) := by
  show mf_285_7 N (mf_285_L3 N f) al (Int32.ofNat 0) s = _
  unfold mf_285_7 mf_285_14 mf_285_18
  simp (disch := omega) only [ev_S, ev_P, ↓reduceIte, Nat.reduceEqDiff, Nat.reduceLeDiff, Nat.reduceAdd, Nat.reduceMul, Nat.reduceSub, reduceCtorEq, l32_0, l32_1, l32_2, l32_3, l32_4, l32_5, l32_6, l32_7, l32_8, l32_9, l32_10, h9]
  rfl
theorem LL_1 {f : Nat} (h9 : s.1 9 = Int32.ofNat 0) (ha : al = 0 ∨ ¬ s.1 44 = Int32.ofNat 0) : LL N (f + 1) al (Int32.ofNat 1) s = mf_285_38 N (mf_285_L3 N f) al s := by
  show mf_285_7 N (mf_285_L3 N f) al (Int32.ofNat 1) s = _
  unfold mf_285_7 mf_285_14 mf_285_26 mf_285_30
  rcases ha with rfl | ha
  · simp (disch := omega) only [ev_S, ev_P, ↓reduceIte, Nat.reduceEqDiff, Nat.reduceLeDiff, Nat.reduceAdd, Nat.reduceMul, Nat.reduceSub, reduceCtorEq, l32_0, l32_1, l32_2, l32_3, l32_4, l32_5, l32_6, l32_7, l32_8, l32_9, l32_10, h9]
  · simp (disch := omega) only [ev_S, ev_P, ↓reduceIte, Nat.reduceEqDiff, Nat.reduceLeDiff, Nat.reduceAdd, Nat.reduceMul, Nat.reduceSub, reduceCtorEq, l32_0, l32_1, l32_2, l32_3, l32_4, l32_5, l32_6, l32_7, l32_8, l32_9, l32_10, h9, ha]
    split <;> rfl
theorem LL_2 {f : Nat} (h9 : s.1 9 = Int32.ofNat 0) (ha : ¬ al = 0) (h44 : s.1 44 = Int32.ofNat 0) : LL N (f + 1) al (Int32.ofNat 1) s = some (s, none) := by
  show mf_285_7 N (mf_285_L3 N f) al (Int32.ofNat 1) s = _
  have ha : ¬ al = Int32.ofNat 0 := ha
  unfold mf_285_7 mf_285_14 mf_285_26 mf_285_30 mf_285_37
  simp (disch := omega) only [ev_S, ev_P, ↓reduceIte, Nat.reduceEqDiff, Nat.reduceLeDiff, Nat.reduceAdd, Nat.reduceMul, Nat.reduceSub, reduceCtorEq, l32_0, l32_1, l32_2, l32_3, l32_4, l32_5, l32_6, l32_7, l32_8, l32_9, l32_10, h9, h44, ha]
end RNE
end
-- ### 89t.pure.lean.txt
section
/-! ===== PURE: both sides at the end of a list ===== -/
def wnt (k : Nat) : Nat := if k = 3 ∨ 19 ≤ k then 2 else 1
def whi (w : Nat) : Nat := if w < 11 then 0 else if w = 16 then 6 else if w = 40 then 3 else wnt (w - 11)
def wlo (w : Nat) : Nat := if w = 16 then 0 else whi w
/-- how many a word wants -/
def oY (X : Nat → Option zz_C) : Prop := ∀ w, w < 41 → hcl X [] (zz_out + (w + 1)) 20 = true ∧ hgi X [] (zz_out + (w + 1)) 20 1 = some (Int32.ofNat (wlo w)) ∧ hgi X [] (zz_out + (w + 1)) 20 2 = some (Int32.ofNat (whi w))
def rWn (s : mS) : Prop := ∀ k, k < 30 → s.2.2.1 1 k = Int32.ofNat (wnt k)
theorem rWn.kp {e : Nat} {s s' : mS} (h : rWn s) (f : fQ e s s') : rWn s' := fun k hk => by rw [f.2.2.1 1 (by omega)]; exact h k hk
section LEN
variable {N : Nat} {X : Nat → Option zz_C} {t t' : cS} {s s' : mS} {b : Nat → Nat} {n p e i op D D' : Nat} {code code1 code2 fl : List Ins} {vs : List (List Nat)} {cl : List Cn} {W W' : List Wt} {cu cu' : List Nat} {fs : Nat × Nat × Nat} {al : Int32} {rk : Nat → List Value → cS → kO}
theorem c_kindNow : cf_42 N X t = some (t, .inl (some (.int (kI t 3 5)))) := rfl
theorem c_placeNow : cf_243 N X t = some (t, .inl (some (.int (kI t 3 6)))) := rfl
theorem c_valueNow : cf_244 N X t = some (t, .inl (some (.long (kL t 3 7)))) := rfl
theorem c_count : cf_41 N X t = some (t, .inl (some (.int (kI t 3 3)))) := rfl
theorem pR.cnt (h : pR b n i op t s) : kI t 3 3 = Int32.ofNat (TL b n).length := by
  have := h.1.1
  rw [List.length_map] at this
  exact this
/-- one act more -/
theorem PEg.em1 {c : Ins} {cp : List Cn} {js : Nat} {k a v : Int32} (h : PEg b n p e i op D code code1 vs cl cp W cu fs t s) (hcv : c.1 = 9 ∨ c.1 = 10 → ∃ x ∈ cp, x.1 = code.length) (hjs : (js = fs.2.1 ∧ noJ c) ∨ js = code.length + 1) (hI : cI code (posC code code.length) c = [(k, a, v)]) (hc : tgO code.length c) (he : eff c cu = some cu') (ho : okI vs.length c) (hD : D' + 1 ≤ D) (hD2 : rlen c + xlen c ≤ 1 ∨ D' + (rlen c + xlen c) ≤ D) : ∃ t', cf_209 N X p k a v t = some (t', .inl (some (.int (Int32.ofNat (cx code))))) ∧ PEg b n p e i op D' (code ++ [c]) code1 vs cl cp W cu' (fs.1, js, fs.2.2) t' s ∧ FR p e t t' s s := by
  have hrm : rmG t := h.1.1.2.2.2.2.2.2.2
  have hll := h.1.now
  have hcx := h.2.2.2.2.2.2.2.2.2.2.2.2
  obtain ⟨t', a1, a2, a3, a4⟩ := c_emit (N := N) (X := X) (k := k) (a := a) (v := v) h.2.1 hrm (by rw [CA_len]; obtain ⟨hi, e5, e6, e7, hkk, ho, he, hlt, hll⟩ := hll; omega)
  rw [CA_len] at a1
  obtain ⟨b1, b2⟩ := h.cEm hcv hjs hc he ho (by rw [hI]; exact a2) a3 a4 hD hD2
  exact ⟨t', a1, b1, b2⟩
theorem PE.em1 {c : Ins} {k a v : Int32} (h : PE b n p e i op D code code1 vs cl W cu fs t s) (hI : cI code (posC code code.length) c = [(k, a, v)]) (hc : tgO code.length c) (he : eff c cu = some cu') (ho : okI vs.length c) (hD : D' + 1 ≤ D) (hD2 : rlen c + xlen c ≤ 1 ∨ D' + (rlen c + xlen c) ≤ D) (hx : xp c := by unfold xp noJ; simp) : ∃ t', cf_209 N X p k a v t = some (t', .inl (some (.int (Int32.ofNat (cx code))))) ∧ PE b n p e i op D' (code ++ [c]) code1 vs cl W cu' fs t' s ∧ FR p e t t' s s := PEg.em1 h (fun z => absurd z hx.1) (Or.inl ⟨rfl, hx.2⟩) hI hc he ho hD hD2
/-- what has waited, and still can be read -/
def slt (s : mS) (m : Nat) (w : Wt) : Prop := s.2.2.1 38 m = Int32.ofNat w.1 ∧ s.2.2.1 39 m = Int32.ofNat w.2.1 ∧ s.2.2.1 40 m = Int32.ofNat w.2.2.1 ∧ s.2.2.1 41 m = Int32.ofNat w.2.2.2.1 ∧ (6 ≤ w.1 → s.2.2.2 42 m = w.2.2.2.2.1 ∧ s.2.2.1 43 m = Int32.ofNat w.2.2.2.2.2)
/-- what is left of ends2 behind the bracket -/
def E2 (N q m : Nat) (c : Int32) (s : mS) : mO := if q = 5 then mf_290_38 N (Int32.ofNat m) c s else mf_290_114 N (Int32.ofNat m) c s
theorem slt.kp {m : Nat} {w : Wt} (h : slt s m w) (f : fPs s s') : slt s' m w := by
  unfold slt at h ⊢
  rw [f.2.2.1 38 (fun z => z), f.2.2.1 39 (fun z => z), f.2.2.1 40 (fun z => z), f.2.2.1 41 (fun z => z), f.2.2.1 43 (fun z => z), f.2.2.2 42 (fun z => z)]
  exact h
/-- the fault of a token that is there -/
theorem PE.ft {x : Nat} (h : PE b n p e i op D code code1 vs cl W cu fs t s) (hx : 2 ≤ x ∧ x ≤ 6) (hk : ∀ hi : i < (TL b n).length, ¬ (TL b n)[i].1 = 1) : ∃ t', cf_202 N X 0 (Int32.ofNat x) t = some (t', .inr ()) ∧ (∃ hi : i < (TL b n).length, mf_261 N (Int32.ofNat x) (Int32.ofNat (TL b n)[i].2.2.2.1) s = some (flt s (Int32.ofNat x) (Int32.ofNat (TL b n)[i].2.2.2.1), none) ∧ s.1 6 = Int32.ofNat (TL b n)[i].2.2.2.1 ∧ pF t' (flt s (Int32.ofNat x) (Int32.ofNat (TL b n)[i].2.2.2.1)) ∧ FX p e t t' s (flt s (Int32.ofNat x) (Int32.ofNat (TL b n)[i].2.2.2.1))) := by
  obtain ⟨t', a1, a2, ⟨hi, a3, a4⟩⟩ := c_fail (N := N) (X := X) (x := x) h.1 (by omega)
  obtain ⟨hi', e5, e6, e7, hkk, ho, he, hlt, hll⟩ := h.1.now
  rw [if_neg (hk hi)] at a3
  have h9 : s.1 9 = 0 := h.1.2.2.2.2.2.2.2.2.2
  have hat := TL_at hi
  have hn : n ≤ 1600 := h.1.2.2.2.2.1
  refine ⟨t', a1, hi, r_breaks h9, hkk.1, ⟨x, (TL b n)[i].2.2.2.1, by omega, hx.2, by omega, a3, a4, rfl, rfl⟩, a2.mono eP_Q (fun _ z => z.elim), ⟨fun q r => ?_, fun _ _ => rfl, fun _ _ => rfl, fun _ _ => rfl, fun _ _ _ _ => rfl, fun z => z⟩, h.oB.kp rfl, h.szF a2⟩
  show (if q = 10 then _ else if q = 9 then _ else s.1 q) = _
  rw [if_neg (by omega), if_neg (by omega)]
end LEN
end
-- ### 89u.pure.lean.txt
section
/-! ===== PURE: both sides at the end of a list (2) ===== -/
section LEO
variable {N : Nat} {X : Nat → Option zz_C} {t t' : cS} {s s' s1 s2 : mS} {b : Nat → Nat} {n p e i op D D' : Nat} {code code1 code2 fl : List Ins} {vs : List (List Nat)} {cl : List Cn} {W W' : List Wt} {cu cu' : List Nat} {fs : Nat × Nat × Nat} {al : Int32} {rk : Nat → List Value → cS → kO}
theorem FX.post (h : FX p e t t' s s1) (f : fQ e s1 s2) (o : oB s2) : FX p e t t' s s2 := ⟨h.1, h.2.1.tr f, o, h.2.2.2⟩
theorem pF.post (h : pF t s1) (e9 : s2.1 9 = s1.1 9) (e10 : s2.1 10 = s1.1 10) : pF t s2 := by
  obtain ⟨x, y, h1, h2, h3, h4, h5, h6, h7⟩ := h
  exact ⟨x, y, h1, h2, h3, h4, h5, e9.trans h6, e10.trans h7⟩
theorem r_signF {x : Nat} {c : Int32} (h9 : s.1 9 = Int32.ofNat x) (hx : 1 ≤ x ∧ x ≤ 6) : mf_267 N c s = some (s, none) := by
  repeat ((first | unfold mf_267 | unfold mf_267_0 | unfold mf_267_7 | unfold mf_267_8 | unfold mf_267_13 | unfold mf_267_16 | unfold mf_267_22 | unfold mf_267_28 | unfold mf_267_34 | unfold mf_267_44 | unfold mf_267_48 | unfold mf_267_51 | unfold mf_267_55); try simp (disch := omega) only [ev_S, ev_P, ↓reduceIte, Nat.reduceEqDiff, Nat.reduceLeDiff, Nat.reduceAdd, Nat.reduceMul, Nat.reduceSub, reduceCtorEq, l32_0, l32_1, l32_2, l32_3, l32_4, l32_9, l32_11, l32_41, l32_93, l32_125, h9])
theorem r_most0 {k : Nat} (h : rWn s) (hk : k < 28) : mf_289 N (Int32.ofNat k) s = some (s, some (.int (Int32.ofNat (whi (k + 11))))) := by
  have e1 := h k (by omega)
  by_cases c : k = 5
  · subst c
    repeat ((first | unfold mf_289 | unfold mf_289_0 | unfold mf_289_5 | unfold mf_289_10 | unfold mf_289_16); try simp (disch := omega) only [ev_S, ev_P, ↓reduceIte, Nat.reduceEqDiff, Nat.reduceLeDiff, Nat.reduceAdd, Nat.reduceMul, Nat.reduceSub, reduceCtorEq, l32_0, l32_1, l32_2, l32_3, l32_4, l32_5, l32_6, l32_30])
    rfl
  · have e2 : whi (k + 11) = wnt k := by
      unfold whi
      rw [if_neg (by omega), if_neg (by omega), if_neg (by omega), Nat.add_sub_cancel]
    rw [e2]
    repeat ((first | unfold mf_289 | unfold mf_289_0 | unfold mf_289_5 | unfold mf_289_10 | unfold mf_289_16); try simp (disch := omega) only [ev_S, ev_P, ↓reduceIte, Nat.reduceEqDiff, Nat.reduceLeDiff, Nat.reduceAdd, Nat.reduceMul, Nat.reduceSub, reduceCtorEq, l32_0, l32_1, l32_2, l32_3, l32_4, l32_5, l32_6, l32_30, e1, c])
theorem PE.pop {w : Wt} (h : PE b n p e i op D code code1 vs cl (W ++ [w]) cu fs t s) : PE b n p e i op D code code1 vs cl W cu fs t (mI s 44 (Int32.ofNat W.length)) ∧ FR p e t t s (mI s 44 (Int32.ofNat W.length)) ∧ slt (mI s 44 (Int32.ofNat W.length)) W.length w := by
  have h5 := h.2.2.2.2.1
  obtain ⟨c1, c2⟩ := h.wt (s' := mI s 44 (Int32.ofNat W.length)) h5.pop ⟨fun q r => if_neg r, fun _ _ => rfl, fun _ _ => rfl, fun _ _ => rfl⟩
  obtain ⟨q0, q1, q2, q3, q4, q5, q6, q7⟩ := w_last h5
  exact ⟨c1, c2, q2, q3, q4, q5, q7⟩
theorem whi_lo {w : Nat} (h : ¬ w = 16) : wlo w = whi w := if_neg h
/-- the end of a list -/
theorem PE.en {q c least : Nat} {w : Wt} (hN : 170000 ≤ N) (h : PE b n p e i op D code code vs cl (W ++ [w]) cu fs t s) (hwn : rWn s) (hq : w.1 = q) (hq3 : q = 5 ∨ q = 6 ∨ q = 7) (hc : w.2.2.1 = c) (hc2 : c < 2000) (ho1 : 1 ≤ op) (hl : (¬ q = 7 → least = 0) ∧ (q = 7 → w.2.1 < 28 ∧ least = wlo (w.2.1 + 11) ∧ c ≤ whi (w.2.1 + 11))) : (∃ t' s', cf_194_92 N X rk (Int32.ofNat (if q = 5 then 93 else 41)) (Int32.ofNat least) (Int32.ofNat c) t = some (t', .inl (some (.int (Int32.ofNat c)))) ∧ mf_290 N s = E2 N q W.length (Int32.ofNat c) s' ∧ PE b n p e (i + 1) (op - 1) (D + 1) code code vs cl W cu fs t' s' ∧ slt s' W.length w ∧ least ≤ c ∧ FR p e t t' s s') ∨ (∃ t' s', cf_194_92 N X rk (Int32.ofNat (if q = 5 then 93 else 41)) (Int32.ofNat least) (Int32.ofNat c) t = some (t', .inr ()) ∧ mf_290 N s = some (s', some (.int 1)) ∧ pF t' s' ∧ FX p e t t' s s') := by
  have h5 := h.2.2.2.2.1
  obtain ⟨q0, q1, q2, q3, q4, q5, q6, q7⟩ := w_last h5
  obtain ⟨p1, p2, p3⟩ := h.pop
  obtain ⟨hi, e5, e6, e7, hkk, ho, he, hlt, hll⟩ := h.1.now
  have h9 : s.1 9 = Int32.ofNat 0 := h.1.2.2.2.2.2.2.2.2.2
  have hlw : least ≤ 6 := by
    by_cases z : q = 7
    · rw [(hl.2 z).2.1]
      unfold wlo whi wnt
      repeat' split
      all_goals omega
    · rw [hl.1 z]
      omega
  rw [hc] at q4
  rw [hq] at q2
  generalize hS : mI s 44 (Int32.ofNat W.length) = sp at p1 p2 p3
  have sp9 : sp.1 9 = Int32.ofNat 0 := by rw [← hS]; exact h9
  have hck : ck (TL b n)[i] = (if q = 5 then 93 else 41) ↔ (TL b n)[i].1 = (if q = 5 then 93 else 41) := ck_sg (by split <;> decide)
  -- the class's own fault
  by_cases hd : (TL b n)[i].1 = (if q = 5 then 93 else 41) ∧ c < least
  · obtain ⟨d1, d2⟩ := hd
    have z7 : q = 7 := by
      refine Classical.byContradiction fun z => ?_
      rw [hl.1 z] at d2
      omega
    subst z7
    obtain ⟨l1, l2, l3⟩ := hl.2 rfl
    have d1 : (TL b n)[i].1 = 41 := d1
    have e5' : kI t 3 5 = Int32.ofNat 41 := by
      rw [e5]
      exact congrArg Int32.ofNat (hck.mpr d1)
    have n5 : ¬ w.2.1 = 5 := by
      intro z
      rw [z] at l2
      have : wlo (5 + 11) = 0 := rfl
      omega
    rw [whi_lo (by omega)] at l2
    obtain ⟨t', a1, hi', a2, a3, a4, a5⟩ := p1.ft (N := N) (X := X) (x := 5) (by omega) (fun hi => by omega)
    have ff := c_fine (N := N) (X := X) (t := t) (x := Int32.ofNat 5)
    refine Or.inr ⟨t', _, ?_, ?_, a4, p2.pre a5⟩
    · show cf_194_92 N X rk (Int32.ofNat 41) (Int32.ofNat least) (Int32.ofNat c) t = _
      unfold cf_194_92 cf_194_100 cf_194_104 cf_194_114 cf_194_115
      have kn : cf_42 N X t = some (t, .inl (some (.int (Int32.ofNat 41)))) := by rw [c_kindNow, e5']
      have a1' : cf_202 N X (Int32.ofNat 0) (Int32.ofNat 5) t = some (t', .inr ()) := a1
      simp (disch := omega) only [ev_S, ev_C, ↓reduceIte, Nat.reduceEqDiff, Nat.reduceLeDiff, Nat.reduceAdd, Nat.reduceMul, Nat.reduceSub, reduceCtorEq, l32_0, l32_1, l32_2, l32_3, l32_4, l32_5, l32_6, l32_7, l32_8, l32_9, l32_10, l32_11, l32_12, l32_13, l32_14, l32_15, l32_16, l32_17, l32_18, l32_19, l32_20, l32_21, l32_22, l32_23, l32_24, l32_25, l32_26, l32_27, l32_28, l32_29, l32_33, l32_40, l32_41, l32_44, l32_45, l32_59, l32_61, l32_91, l32_93, l32_123, l32_125, kn, a1', d2]
      rfl
    · have g1 := r_isSign (N := N) (s := sp) (c := 41) p1.1.2.2.2.2.2.2.1.2 (by decide) (by decide)
      rw [if_pos d1] at g1
      have w0 : rWn sp := hwn.kp p2.2
      have g2 := r_most0 (N := N) (s := sp) w0 l1
      have b1 := p3.2.1
      have b0 := p3.1
      rw [hq] at b0
      have g3 := r_signF (N := N) (x := 5) (c := Int32.ofNat 41) (s := flt sp (Int32.ofNat 5) (Int32.ofNat (TL b n)[i].2.2.2.1)) rfl (by omega)
      have nm : ¬ c = whi (w.2.1 + 11) := by omega
      have wl : whi (w.2.1 + 11) < 10 := by
        unfold whi wnt
        repeat' split
        all_goals omega
      have hW8 : W.length < 80 := by omega
      unfold mf_290 mf_290_0
      rw [q0]
      simp (disch := omega) only [ev_S, ev_P, ↓reduceIte, Nat.reduceEqDiff, Nat.reduceLeDiff, Nat.reduceAdd, Nat.reduceMul, Nat.reduceSub, reduceCtorEq, l32_0, l32_1, l32_2, l32_3, l32_4, l32_5, l32_6, l32_7, l32_8, l32_9, l32_10, l32_11, l32_12, l32_13, l32_14, l32_15, l32_16, l32_17, l32_18, l32_19, l32_20, l32_21, l32_22, l32_23, l32_24, l32_25, l32_26, l32_27, l32_28, l32_29, l32_33, l32_40, l32_41, l32_44, l32_45, l32_59, l32_61, l32_91, l32_93, l32_123, l32_125, q2, q4, hS]
      unfold mf_290_55 mf_290_66 mf_290_72 mf_290_75 mf_290_85 mf_290_96 mf_290_99 mf_290_108
      simp (disch := omega) only [ev_S, ev_P, ↓reduceIte, Nat.reduceEqDiff, Nat.reduceLeDiff, Nat.reduceAdd, Nat.reduceMul, Nat.reduceSub, reduceCtorEq, l32_0, l32_1, l32_2, l32_3, l32_4, l32_5, l32_6, l32_7, l32_8, l32_9, l32_10, l32_11, l32_12, l32_13, l32_14, l32_15, l32_16, l32_17, l32_18, l32_19, l32_20, l32_21, l32_22, l32_23, l32_24, l32_25, l32_26, l32_27, l32_28, l32_29, l32_33, l32_40, l32_41, l32_44, l32_45, l32_59, l32_61, l32_91, l32_93, l32_123, l32_125, b0, b1, g1, g2, n5, nm, a2, a3, g3]
      unfold mf_290_114 mf_290_121
      rfl
  · have hcl : cf_194_92 N X rk (Int32.ofNat (if q = 5 then 93 else 41)) (Int32.ofNat least) (Int32.ofNat c) t = cf_194_119 N X rk (Int32.ofNat (if q = 5 then 93 else 41)) (Int32.ofNat c) t := by
      have ff : cf_202 N X (Int32.ofNat 1) (Int32.ofNat 5) t = some (t, .inl none) := c_fine
      have kn : cf_42 N X t = some (t, .inl (some (.int (Int32.ofNat (ck (TL b n)[i]))))) := by rw [c_kindNow, e5]
      generalize hL : (if q = 5 then 93 else 41) = last at hd hck ⊢
      have hL2 : last < 100 := by rw [← hL]; split <;> decide
      by_cases z : (TL b n)[i].1 = last
      · have z1 := hck.mpr z
        have z2 : least ≤ c := by
          refine Classical.byContradiction fun y => hd ⟨z, by omega⟩
        unfold cf_194_92 cf_194_100 cf_194_104 cf_194_110 cf_194_115
        simp (disch := omega) only [ev_S, ev_C, ↓reduceIte, Nat.reduceEqDiff, Nat.reduceLeDiff, Nat.reduceAdd, Nat.reduceMul, Nat.reduceSub, reduceCtorEq, l32_0, l32_1, l32_2, l32_3, l32_4, l32_5, l32_6, l32_7, l32_8, l32_9, l32_10, l32_11, l32_12, l32_13, l32_14, l32_15, l32_16, l32_17, l32_18, l32_19, l32_20, l32_21, l32_22, l32_23, l32_24, l32_25, l32_26, l32_27, l32_28, l32_29, l32_33, l32_40, l32_41, l32_44, l32_45, l32_59, l32_61, l32_91, l32_93, l32_123, l32_125, kn, z1, ff]
      · have z1 : ¬ ck (TL b n)[i] = last := fun y => z (hck.mp y)
        unfold cf_194_92 cf_194_100 cf_194_110 cf_194_115
        simp (disch := omega) only [ev_S, ev_C, ↓reduceIte, Nat.reduceEqDiff, Nat.reduceLeDiff, Nat.reduceAdd, Nat.reduceMul, Nat.reduceSub, reduceCtorEq, l32_0, l32_1, l32_2, l32_3, l32_4, l32_5, l32_6, l32_7, l32_8, l32_9, l32_10, l32_11, l32_12, l32_13, l32_14, l32_15, l32_16, l32_17, l32_18, l32_19, l32_20, l32_21, l32_22, l32_23, l32_24, l32_25, l32_26, l32_27, l32_28, l32_29, l32_33, l32_40, l32_41, l32_44, l32_45, l32_59, l32_61, l32_91, l32_93, l32_123, l32_125, kn, z1, ff]
    rw [hcl]
    have hcs : cf_194_119 N X rk (Int32.ofNat (if q = 5 then 93 else 41)) (Int32.ofNat c) t = ko_call 5 (cf_201 N X (Int32.ofNat (if q = 5 then 93 else 41)) t) (fun g1 v1 => co_v v1 (some (g1, .inl (some (.int (Int32.ofNat c)))))) := rfl
    rw [hcs]
    -- the reference comes to the bracket too
    have hrs : mf_290 N s = mo_bv (mf_267 N (Int32.ofNat (if q = 5 then 93 else 41)) sp) (fun s1 => E2 N q W.length (Int32.ofNat c) s1) := by
      have hW8 : W.length < 80 := by omega
      rcases hq3 with rfl | rfl | rfl
      · unfold mf_290 mf_290_0
        rw [q0]
        simp (disch := omega) only [ev_S, ev_P, ↓reduceIte, Nat.reduceEqDiff, Nat.reduceLeDiff, Nat.reduceAdd, Nat.reduceMul, Nat.reduceSub, reduceCtorEq, l32_0, l32_1, l32_2, l32_3, l32_4, l32_5, l32_6, l32_7, l32_8, l32_9, l32_10, l32_11, l32_12, l32_13, l32_14, l32_15, l32_16, l32_17, l32_18, l32_19, l32_20, l32_21, l32_22, l32_23, l32_24, l32_25, l32_26, l32_27, l32_28, l32_29, l32_33, l32_40, l32_41, l32_44, l32_45, l32_59, l32_61, l32_91, l32_93, l32_123, l32_125, q2, q4, hS]
        rfl
      · have b0 := p3.1
        rw [hq] at b0
        unfold mf_290 mf_290_0
        rw [q0]
        simp (disch := omega) only [ev_S, ev_P, ↓reduceIte, Nat.reduceEqDiff, Nat.reduceLeDiff, Nat.reduceAdd, Nat.reduceMul, Nat.reduceSub, reduceCtorEq, l32_0, l32_1, l32_2, l32_3, l32_4, l32_5, l32_6, l32_7, l32_8, l32_9, l32_10, l32_11, l32_12, l32_13, l32_14, l32_15, l32_16, l32_17, l32_18, l32_19, l32_20, l32_21, l32_22, l32_23, l32_24, l32_25, l32_26, l32_27, l32_28, l32_29, l32_33, l32_40, l32_41, l32_44, l32_45, l32_59, l32_61, l32_91, l32_93, l32_123, l32_125, q2, q4, hS]
        unfold mf_290_55
        simp (disch := omega) only [ev_S, ev_P, ↓reduceIte, Nat.reduceEqDiff, Nat.reduceLeDiff, Nat.reduceAdd, Nat.reduceMul, Nat.reduceSub, reduceCtorEq, l32_0, l32_1, l32_2, l32_3, l32_4, l32_5, l32_6, l32_7, l32_8, l32_9, l32_10, l32_11, l32_12, l32_13, l32_14, l32_15, l32_16, l32_17, l32_18, l32_19, l32_20, l32_21, l32_22, l32_23, l32_24, l32_25, l32_26, l32_27, l32_28, l32_29, l32_33, l32_40, l32_41, l32_44, l32_45, l32_59, l32_61, l32_91, l32_93, l32_123, l32_125, b0]
        rfl
      · have b0 := p3.1
        rw [hq] at b0
        have b1 := p3.2.1
        obtain ⟨l1, l2, l3⟩ := hl.2 rfl
        have g1 := r_isSign (N := N) (s := sp) (c := 41) p1.1.2.2.2.2.2.2.1.2 (by decide) (by decide)
        unfold mf_290 mf_290_0
        rw [q0]
        simp (disch := omega) only [ev_S, ev_P, ↓reduceIte, Nat.reduceEqDiff, Nat.reduceLeDiff, Nat.reduceAdd, Nat.reduceMul, Nat.reduceSub, reduceCtorEq, l32_0, l32_1, l32_2, l32_3, l32_4, l32_5, l32_6, l32_7, l32_8, l32_9, l32_10, l32_11, l32_12, l32_13, l32_14, l32_15, l32_16, l32_17, l32_18, l32_19, l32_20, l32_21, l32_22, l32_23, l32_24, l32_25, l32_26, l32_27, l32_28, l32_29, l32_33, l32_40, l32_41, l32_44, l32_45, l32_59, l32_61, l32_91, l32_93, l32_123, l32_125, q2, q4, hS]
        unfold mf_290_55 mf_290_66 mf_290_72
        by_cases z : (TL b n)[i].1 = 41
        · rw [if_pos z] at g1
          by_cases n5 : w.2.1 = 5
          · rw [n5] at b1
            unfold mf_290_75
            simp (disch := omega) only [ev_S, ev_P, ↓reduceIte, Nat.reduceEqDiff, Nat.reduceLeDiff, Nat.reduceAdd, Nat.reduceMul, Nat.reduceSub, reduceCtorEq, l32_0, l32_1, l32_2, l32_3, l32_4, l32_5, l32_6, l32_7, l32_8, l32_9, l32_10, l32_11, l32_12, l32_13, l32_14, l32_15, l32_16, l32_17, l32_18, l32_19, l32_20, l32_21, l32_22, l32_23, l32_24, l32_25, l32_26, l32_27, l32_28, l32_29, l32_33, l32_40, l32_41, l32_44, l32_45, l32_59, l32_61, l32_91, l32_93, l32_123, l32_125, b0, b1, g1]
            rfl
          · have z2 : ¬ c < least := fun y => hd ⟨z, y⟩
            rw [whi_lo (by omega)] at l2
            have nm : whi (w.2.1 + 11) = c := by omega
            have w0 : rWn sp := hwn.kp p2.2
            have g2 := r_most0 (N := N) (s := sp) w0 l1
            rw [nm] at g2
            unfold mf_290_75 mf_290_85 mf_290_96
            simp (disch := omega) only [ev_S, ev_P, ↓reduceIte, Nat.reduceEqDiff, Nat.reduceLeDiff, Nat.reduceAdd, Nat.reduceMul, Nat.reduceSub, reduceCtorEq, l32_0, l32_1, l32_2, l32_3, l32_4, l32_5, l32_6, l32_7, l32_8, l32_9, l32_10, l32_11, l32_12, l32_13, l32_14, l32_15, l32_16, l32_17, l32_18, l32_19, l32_20, l32_21, l32_22, l32_23, l32_24, l32_25, l32_26, l32_27, l32_28, l32_29, l32_33, l32_40, l32_41, l32_44, l32_45, l32_59, l32_61, l32_91, l32_93, l32_123, l32_125, b0, b1, g1, n5, g2]
            rfl
        · rw [if_neg z] at g1
          simp (disch := omega) only [ev_S, ev_P, ↓reduceIte, Nat.reduceEqDiff, Nat.reduceLeDiff, Nat.reduceAdd, Nat.reduceMul, Nat.reduceSub, reduceCtorEq, l32_0, l32_1, l32_2, l32_3, l32_4, l32_5, l32_6, l32_7, l32_8, l32_9, l32_10, l32_11, l32_12, l32_13, l32_14, l32_15, l32_16, l32_17, l32_18, l32_19, l32_20, l32_21, l32_22, l32_23, l32_24, l32_25, l32_26, l32_27, l32_28, l32_29, l32_33, l32_40, l32_41, l32_44, l32_45, l32_59, l32_61, l32_91, l32_93, l32_123, l32_125, b0, g1]
          rfl
    rw [hrs]
    have hcc : (if q = 5 then 93 else 41) = 41 ∨ (if q = 5 then 93 else 41) = 93 ∨ (if q = 5 then 93 else 41) = 125 ∨ (if q = 5 then 93 else 41) = 59 ∨ (if q = 5 then 93 else 41) = 44 ∨ (if q = 5 then 93 else 41) = 61 := by
      by_cases z : q = 5
      · rw [if_pos z]; omega
      · rw [if_neg z]; omega
    rcases p1.sgn (N := N) (X := X) hN hcc (fun _ => ho1) with ⟨t', s', a1, a2, ⟨hi', a3⟩, a4, a5, a6⟩ | ⟨t', s', a1, a2, a3, a4, a5⟩
    · refine Or.inl ⟨t', s', by rw [a1]; rfl, by rw [a2]; rfl, ?_, ?_, ?_, p2.tr a5⟩
      · rw [if_pos (by split <;> omega)] at a4
        exact a4
      · exact p3.kp a6
      · refine Classical.byContradiction fun y => hd ⟨a3, by omega⟩
    · have hx := a3
      obtain ⟨x, y, x1, x2, x3, x4, x5, x6, x7⟩ := hx
      have hcr := p1.2.2.1.keep (a5.1 12 (by omega)) (a5.1 28 (by omega)) (fun q _ => a5.2.2.1 q (fun z => z))
      have hrl := p1.rle
      have hW8 : W.length < 80 := by omega
      have b4 := (p3.kp a5).2.2.2.1
      by_cases z5 : q = 5
      · subst z5
        obtain ⟨s2, c1, c2, c3⟩ := r_order (N := N) (x1 := Int32.ofNat 6) (x2 := Int32.ofNat c) (x3 := Int32.ofNat 0) (x4 := Int32.ofNat w.2.2.2.1) hcr (by rw [RA_len]; omega)
        refine Or.inr ⟨t', s2, by rw [a1]; rfl, ?_, a3.post (c3.1 9 (by decide)) (c3.1 10 (by decide)), p2.pre (a4.post (fO.Q c3) (c2.oB (by rw [List.length_append, RA_len, List.length_singleton]; omega)))⟩
        rw [a2]
        show mf_290_38 N (Int32.ofNat W.length) (Int32.ofNat c) s' = _
        unfold mf_290_38 mf_290_52
        simp (disch := omega) only [ev_S, ev_P, ↓reduceIte, Nat.reduceEqDiff, Nat.reduceLeDiff, Nat.reduceAdd, Nat.reduceMul, Nat.reduceSub, reduceCtorEq, l32_0, l32_1, l32_2, l32_3, l32_4, l32_5, l32_6, l32_7, l32_8, l32_9, l32_10, l32_11, l32_12, l32_13, l32_14, l32_15, l32_16, l32_17, l32_18, l32_19, l32_20, l32_21, l32_22, l32_23, l32_24, l32_25, l32_26, l32_27, l32_28, l32_29, l32_33, l32_40, l32_41, l32_44, l32_45, l32_59, l32_61, l32_91, l32_93, l32_123, l32_125, b4, c1]
      · refine Or.inr ⟨t', s', by rw [a1]; rfl, ?_, a3, p2.pre a4⟩
        rw [a2]
        show E2 N q W.length (Int32.ofNat c) s' = _
        unfold E2
        rw [if_neg z5]
        unfold mf_290_114 mf_290_121
        simp (disch := omega) only [ev_S, ev_P, ↓reduceIte, Nat.reduceEqDiff, Nat.reduceLeDiff, Nat.reduceAdd, Nat.reduceMul, Nat.reduceSub, reduceCtorEq, l32_0, l32_1, l32_2, l32_3, l32_4, l32_5, l32_6, l32_7, l32_8, l32_9, l32_10, l32_11, l32_12, l32_13, l32_14, l32_15, l32_16, l32_17, l32_18, l32_19, l32_20, l32_21, l32_22, l32_23, l32_24, l32_25, l32_26, l32_27, l32_28, l32_29, l32_33, l32_40, l32_41, l32_44, l32_45, l32_59, l32_61, l32_91, l32_93, l32_123, l32_125, x6]
end LEO
end
-- ### 89v.pure.lean.txt
section
/-! ===== PURE: what both sides answer on an expression ===== -/
section RES
variable {N : Nat} {X : Nat → Option zz_C} {t t' : cS} {s s' s1 s2 : mS} {b : Nat → Nat} {n p e i op D D' : Nat} {code code1 code2 fl : List Ins} {vs : List (List Nat)} {cl : List Cn} {W W' : List Wt} {cu cu' : List Nat} {fs : Nat × Nat × Nat} {al : Int32} {rk : Nat → List Value → cS → kO} {Z : List (Nat × Nat)} {ah : Option (Nat × Nat)}
/-- both tell the same fault -/
def FLT (N : Nat) (b : Nat → Nat) (n p e i : Nat) (al h : Int32) (t : cS) (s : mS) (R : kO) : Prop := ∃ t' s' k, R = some (t', .inr ()) ∧ k + i ≤ (TL b n).length + 1 ∧ (∀ f, LL N (f + k) al h s = some (s', none)) ∧ pF t' s' ∧ FX p e t t' s s'
/-- what may stand behind -/
def PZ (l : Nat) (Z : List (Nat × Nat)) (k : Nat) : Prop := ¬ k = 91 ∧ (lv k = 9 ∨ lv k < l ∨ (lv k = 1 ∧ one1 Z))
def RX (N : Nat) (b : Nat → Nat) (n p e l i op D : Nat) (code : List Ins) (W : List Wt) (cu : List Nat) (fs : Nat × Nat × Nat) (al : Int32) (t : cS) (s : mS) (R : kO) : Prop := (∃ t' s' k i' seg code1 vs' cl' Z ah, R = some (t', .inl none) ∧ i < i' ∧ k + i ≤ i' ∧ (∀ f, LL N (f + k) al (Int32.ofNat 0) s = LL N f al (Int32.ofNat 1) s') ∧ PE b n p e i' op D (code ++ seg) code1 vs' cl' (W ++ Z.map bt ++ ahW ah) (0 :: cu) fs t' s' ∧ code ++ seg = code1 ++ ahI ah ++ Z.reverse.map twI ∧ okA ah ∧ (∀ z ∈ Z, okS z.1 ∧ l ≤ lv z.1 ∧ lv z.1 ≤ 3) ∧ (∀ hi : i' < (TL b n).length, PZ l Z (TL b n)[i'].1) ∧ FR p e t t' s s') ∨ FLT N b n p e i al (Int32.ofNat 0) t s R
def RS (N : Nat) (b : Nat → Nat) (n p e i op D : Nat) (code : List Ins) (W : List Wt) (cu : List Nat) (fs : Nat × Nat × Nat) (al : Int32) (t : cS) (s : mS) (R : kO) : Prop := (∃ t' s' k i' seg vs' cl', R = some (t', .inl none) ∧ i < i' ∧ k + i ≤ i' ∧ (∀ f, LL N (f + k) al (Int32.ofNat 0) s = LL N f al (Int32.ofNat 1) s') ∧ PE b n p e i' op D (code ++ seg) (code ++ seg) vs' cl' W (0 :: cu) fs t' s' ∧ FR p e t t' s s') ∨ FLT N b n p e i al (Int32.ofNat 0) t s R
/-- the round that ends an expression -/
theorem PE.flu (hN : 170000 ≤ N) (h : PE b n p e i op D code code1 vs cl (W ++ Z.map bt ++ ahW ah) cu fs t s) (hf : code = code1 ++ ahI ah ++ Z.reverse.map twI) (hA : okA ah) (hz : ∀ z ∈ Z, okS z.1 ∧ lv z.1 ≤ 3) (hk : ∀ hi : i < (TL b n).length, PZ 0 Z (TL b n)[i].1) (hs : HW 0 W) (ha : al = 0 ∨ ¬ W = []) : ∃ s', (∀ f, LL N (f + 1) al (Int32.ofNat 1) s = mf_285_215 N (mf_285_L3 N f) al s') ∧ PE b n p e i op D code code vs cl W cu fs t s' ∧ FR p e t t s s' := by
  have h9 : s.1 9 = Int32.ofNat 0 := h.1.2.2.2.2.2.2.2.2.2
  have h5 := h.2.2.2.2.1
  have hne : al = 0 ∨ ¬ s.1 44 = Int32.ofNat 0 := by
    rcases ha with z | z
    · exact Or.inl z
    · refine Or.inr fun y => ?_
      rw [h5.1] at y
      have l1 : 0 < W.length := List.length_pos_iff.mpr z
      have l2 := h5.2.1
      rw [ev_eq (by omega) (by omega)] at y
      rw [List.length_append, List.length_append] at y
      omega
  obtain ⟨hi, e5, e6, e7, hkk, ho, he, hlt, hll⟩ := h.1.now
  have g1 := r_isSign (N := N) (s := s) (c := 91) hkk (by decide) (by decide)
  rw [if_neg (hk hi).1] at g1
  obtain ⟨s1, a1, a2, a3⟩ := PE.ahf (N := N) (al := al) (fl := Z.reverse.map twI) h hA hf (fun W' w hw hw2 => by
    rcases List.eq_nil_or_concat Z with c | ⟨Z', z, c⟩
    · rw [c] at hw
      have hw : W ++ [] = W' ++ [w] := hw
      rw [List.append_nil] at hw
      rcases hs with z | ⟨W1, w1, z1, z2⟩
      · rw [z] at hw
        simp at hw
      · rw [z1] at hw
        have hq := (List.append_inj' hw rfl).2
        have hq2 : w1 = w := by injection hq
        rw [hq2] at z2
        rcases z2 with z2 | ⟨z, z2, z3, z4⟩
        · omega
        · omega
    · rw [List.concat_eq_append] at c
      rw [c, List.map_append, ← List.append_assoc] at hw
      have hq := (List.append_inj' hw rfl).2
      have hq2 : bt z = w := by injection hq
      rw [← hq2] at hw2
      exact absurd (show (1 : Nat) = 2 from hw2) (by decide))
  obtain ⟨s2, b1, b2, b3⟩ := PE.fin (N := N) (al := al) hN a2 (fun hi => by
    rcases (hk hi).2 with z | z | z
    · exact Or.inl z
    · omega
    · exact Or.inr z) hs hz hf
  refine ⟨s2, fun f => ?_, b2, a3.tr b3⟩
  rw [LL_1 h9 hne, ← b1, ← a1]
  unfold mf_285_38 mf_285_44
  simp (disch := omega) only [ev_S, ev_P, ↓reduceIte, Nat.reduceEqDiff, Nat.reduceLeDiff, Nat.reduceAdd, Nat.reduceMul, Nat.reduceSub, reduceCtorEq, l32_0, l32_1, l32_2, l32_3, l32_4, l32_5, l32_6, l32_7, l32_8, l32_9, l32_10, l32_11, l32_12, l32_13, l32_14, l32_15, l32_16, l32_17, l32_18, l32_19, l32_20, l32_21, l32_22, l32_23, l32_24, l32_25, l32_26, l32_27, l32_28, l32_29, l32_33, l32_40, l32_41, l32_44, l32_45, l32_59, l32_61, l32_91, l32_93, l32_123, l32_125, g1]
theorem L215 {f : Nat} {w : Wt} (h : rW s (W ++ [w])) : mf_285_215 N (mf_285_L3 N f) al s = mo_bi (mf_288 N s) (fun s1 y => LL N f al y s1) := by
  obtain ⟨q0, q1, _⟩ := w_last h
  unfold mf_285_215 mf_285_223 mf_285_227
  simp (disch := omega) only [ev_S, ev_P, ↓reduceIte, Nat.reduceEqDiff, Nat.reduceLeDiff, Nat.reduceAdd, Nat.reduceMul, Nat.reduceSub, reduceCtorEq, l32_0, l32_1, l32_2, l32_3, l32_4, l32_5, l32_6, l32_7, l32_8, l32_9, l32_10, l32_11, l32_12, l32_13, l32_14, l32_15, l32_16, l32_17, l32_18, l32_19, l32_20, l32_21, l32_22, l32_23, l32_24, l32_25, l32_26, l32_27, l32_28, l32_29, l32_33, l32_40, l32_41, l32_44, l32_45, l32_59, l32_61, l32_91, l32_93, l32_123, l32_125, q0]
theorem L215_0 {rc : Nat → Int32 → Int32 → mS → mO} (h : rW s []) : mf_285_215 N rc al s = some (s, none) := by
  have q0 : s.1 44 = Int32.ofNat 0 := h.1
  unfold mf_285_215 mf_285_222
  simp (disch := omega) only [ev_S, ev_P, ↓reduceIte, Nat.reduceEqDiff, Nat.reduceLeDiff, Nat.reduceAdd, Nat.reduceMul, Nat.reduceSub, reduceCtorEq, l32_0, l32_1, l32_2, l32_3, l32_4, l32_5, l32_6, l32_7, l32_8, l32_9, l32_10, l32_11, l32_12, l32_13, l32_14, l32_15, l32_16, l32_17, l32_18, l32_19, l32_20, l32_21, l32_22, l32_23, l32_24, l32_25, l32_26, l32_27, l32_28, l32_29, l32_33, l32_40, l32_41, l32_44, l32_45, l32_59, l32_61, l32_91, l32_93, l32_123, l32_125, q0]
/-- one E more -/
abbrev inc (w : Wt) : Wt := (w.1, w.2.1, w.2.2.1 + 1, w.2.2.2)
theorem PE.nc {w : Wt} (h : PE b n p e i op D code code1 vs cl (W ++ [w]) cu fs t s) : PE b n p e i op D code code1 vs cl (W ++ [inc w]) cu fs t (mA s 40 (upd (s.2.2.1 40) W.length (Int32.ofNat (w.2.2.1 + 1)))) ∧ FR p e t t s (mA s 40 (upd (s.2.2.1 40) W.length (Int32.ofNat (w.2.2.1 + 1)))) := by
  have h5 := h.2.2.2.2.1
  refine h.wt ⟨?_, ?_, fun j hj => ?_⟩ ⟨fun _ _ => rfl, fun _ _ => rfl, fun q r => ?_, fun _ _ => rfl⟩
  · rw [List.length_append]
    have := h5.1
    rw [List.length_append] at this
    exact this
  · rw [List.length_append]
    have := h5.2.1
    rw [List.length_append] at this
    exact this
  · have hl : (W ++ [w]).length = W.length + 1 := List.length_append
    have hl2 : (W ++ [inc w]).length = W.length + 1 := List.length_append
    by_cases c : j < W.length
    · have h6 := h5.2.2 j (by omega)
      rw [List.getElem_append_left c] at h6 ⊢
      obtain ⟨y1, y2, y3, y4, y5, y6⟩ := h6
      exact ⟨y1, y2, (upd_n (by omega)).trans y3, y4, y5, y6⟩
    · have ej : j = W.length := by omega
      subst ej
      have h6 := h5.2.2 W.length (by omega)
      rw [List.getElem_append_right (Nat.le_refl _)] at h6 ⊢
      simp only [Nat.sub_self, List.getElem_cons_zero] at h6 ⊢
      obtain ⟨y1, y2, y3, y4, y5, y6⟩ := h6
      exact ⟨y1, y2, if_pos rfl, y4, y5, y6⟩
  · show (if q = 40 then _ else s.2.2.1 q) = _
    rw [if_neg (by omega)]
end RES
end
-- ### 89w.pure.lean.txt
section
/-! ===== PURE: a list, on both sides ===== -/
section LIS
variable {N : Nat} {X : Nat → Option zz_C} {t t' : cS} {s s' s1 s2 : mS} {b : Nat → Nat} {n p e i op D D' : Nat} {code code1 code2 fl : List Ins} {vs : List (List Nat)} {cl : List Cn} {W W' : List Wt} {cu cu' : List Nat} {fs : Nat × Nat × Nat} {al : Int32} {rk : Nat → List Value → cS → kO} {Z : List (Nat × Nat)} {ah : Option (Nat × Nat)}
/-- ends1 of a list -/
theorem PE.e1 {w : Wt} (h : PE b n p e i op D code code vs cl (W ++ [w]) cu fs t s) (hwn : rWn s) (hq3 : w.1 = 5 ∨ w.1 = 6 ∨ w.1 = 7) (hb : w.1 = 7 → w.2.1 < 28) (hc2 : w.2.2.1 < 2000) : ∃ s1, PE b n p e i op D code code vs cl (W ++ [inc w]) cu fs t s1 ∧ FR p e t t s s1 ∧ ∃ hi : i < (TL b n).length, (((TL b n)[i].1 = 44 ∧ (w.1 = 7 → w.2.2.1 + 1 < whi (w.2.1 + 11))) ∧ mf_288 N s = mo_bv (mf_260 N s1) (fun s2 => some (s2, some (.int (Int32.ofNat 0))))) ∨ (((TL b n)[i].1 = 44 ∧ w.1 = 7 ∧ whi (w.2.1 + 11) ≤ w.2.2.1 + 1) ∧ mf_288 N s = mo_bv (mf_261 N (Int32.ofNat 5) (s1.1 6) s1) (fun s2 => if ¬ s2.1 9 = 0 then some (s2, some (.int (Int32.ofNat 0))) else mf_288_179 N s2)) ∨ (¬ (TL b n)[i].1 = 44 ∧ mf_288 N s = mo_bi (mf_290 N s1) (fun s2 y => mf_288_189 N y s2)) := by
  have h5 := h.2.2.2.2.1
  obtain ⟨q0, q1, q2, q3, q4, q5, q6, q7⟩ := w_last h5
  obtain ⟨c1, c2⟩ := h.nc
  obtain ⟨hi, e5, e6, e7, hkk, ho, he, hlt, hll⟩ := c1.1.now
  have h9 : s.1 9 = Int32.ofNat 0 := h.1.2.2.2.2.2.2.2.2.2
  obtain ⟨r0, r1, r2, r3, r4, r5, r6, r7⟩ := w_last c1.2.2.2.2.1
  have g1 := r_isSign (N := N) (c := 44) hkk (by decide) (by decide)
  have w0 : rWn _ := hwn.kp c2.2
  have g9 : (mA s 40 (upd (s.2.2.1 40) W.length (Int32.ofNat (w.2.2.1 + 1)))).1 9 = Int32.ofNat 0 := h9
  have hW8 : W.length < 80 := by omega
  have hwh : ∀ k, whi k < 10 := fun k => by
    unfold whi wnt
    repeat' split
    all_goals omega
  have hst : mf_288 N s = mo_bi (mf_263 N (Int32.ofNat 44) (mA s 40 (upd (s.2.2.1 40) W.length (Int32.ofNat (w.2.2.1 + 1))))) (fun s1 y => mf_288_30 N (Int32.ofNat W.length) (Int32.ofNat w.1) y s1) := by
    unfold mf_288 mf_288_0
    simp (disch := omega) only [ev_S, ev_P, ↓reduceIte, Nat.reduceEqDiff, Nat.reduceLeDiff, Nat.reduceAdd, Nat.reduceMul, Nat.reduceSub, reduceCtorEq, l32_0, l32_1, l32_2, l32_3, l32_4, l32_5, l32_6, l32_7, l32_8, l32_9, l32_10, l32_11, l32_12, l32_13, l32_14, l32_15, l32_16, l32_17, l32_18, l32_19, l32_20, l32_21, l32_22, l32_23, l32_24, l32_25, l32_26, l32_27, l32_28, l32_29, l32_33, l32_40, l32_41, l32_44, l32_45, l32_59, l32_61, l32_91, l32_93, l32_123, l32_125, q0, q2, q4]
  generalize hS : mA s 40 (upd (s.2.2.1 40) W.length (Int32.ofNat (w.2.2.1 + 1))) = sn at *
  refine ⟨sn, c1, c2, hi, ?_⟩
  rw [hst, g1]
  by_cases z : (TL b n)[i].1 = 44
  · rw [if_pos z]
    by_cases z7 : w.1 = 7
    · have g2 := r_most0 (N := N) (s := sn) w0 (hb z7)
      have hwk := hwh (w.2.1 + 11)
      rw [z7]
      by_cases zc : w.2.2.1 + 1 < whi (w.2.1 + 11)
      · refine Or.inl ⟨⟨z, fun _ => zc⟩, ?_⟩
        unfold mf_288_30 mf_288_36 mf_288_89 mf_288_124 mf_288_130 mf_288_134 mf_288_150 mf_288_162 mf_288_166 mf_288_172 mf_288_179 mf_288_183
        simp (disch := omega) only [ev_S, ev_P, ↓reduceIte, Nat.reduceEqDiff, Nat.reduceLeDiff, Nat.reduceAdd, Nat.reduceMul, Nat.reduceSub, reduceCtorEq, l32_0, l32_1, l32_2, l32_3, l32_4, l32_5, l32_6, l32_7, l32_8, l32_9, l32_10, l32_11, l32_12, l32_13, l32_14, l32_15, l32_16, l32_17, l32_18, l32_19, l32_20, l32_21, l32_22, l32_23, l32_24, l32_25, l32_26, l32_27, l32_28, l32_29, l32_33, l32_40, l32_41, l32_44, l32_45, l32_59, l32_61, l32_91, l32_93, l32_123, l32_125, r3, r4, g2, g9, zc]
      · refine Or.inr (Or.inl ⟨⟨z, rfl, by omega⟩, ?_⟩)
        unfold mf_288_30 mf_288_36 mf_288_89 mf_288_124 mf_288_130 mf_288_134 mf_288_150 mf_288_153
        simp (disch := omega) only [ev_S, ev_P, ↓reduceIte, Nat.reduceEqDiff, Nat.reduceLeDiff, Nat.reduceAdd, Nat.reduceMul, Nat.reduceSub, reduceCtorEq, l32_0, l32_1, l32_2, l32_3, l32_4, l32_5, l32_6, l32_7, l32_8, l32_9, l32_10, l32_11, l32_12, l32_13, l32_14, l32_15, l32_16, l32_17, l32_18, l32_19, l32_20, l32_21, l32_22, l32_23, l32_24, l32_25, l32_26, l32_27, l32_28, l32_29, l32_33, l32_40, l32_41, l32_44, l32_45, l32_59, l32_61, l32_91, l32_93, l32_123, l32_125, r3, r4, g2, g9, zc]
        rfl
    · refine Or.inl ⟨⟨z, fun y => absurd y z7⟩, ?_⟩
      have z1 : ¬ w.1 = 3 := by omega
      have z2 : ¬ w.1 = 4 := by omega
      have z3 : ¬ w.1 = 8 := by omega
      unfold mf_288_30 mf_288_36 mf_288_89 mf_288_124 mf_288_162 mf_288_166 mf_288_172 mf_288_179 mf_288_183
      simp (disch := omega) only [ev_S, ev_P, ↓reduceIte, Nat.reduceEqDiff, Nat.reduceLeDiff, Nat.reduceAdd, Nat.reduceMul, Nat.reduceSub, reduceCtorEq, l32_0, l32_1, l32_2, l32_3, l32_4, l32_5, l32_6, l32_7, l32_8, l32_9, l32_10, l32_11, l32_12, l32_13, l32_14, l32_15, l32_16, l32_17, l32_18, l32_19, l32_20, l32_21, l32_22, l32_23, l32_24, l32_25, l32_26, l32_27, l32_28, l32_29, l32_33, l32_40, l32_41, l32_44, l32_45, l32_59, l32_61, l32_91, l32_93, l32_123, l32_125, g9, z1, z2, z3, z7]
  · rw [if_neg z]
    refine Or.inr (Or.inr ⟨z, ?_⟩)
    have z1 : ¬ w.1 = 3 := by omega
    have z2 : ¬ w.1 = 4 := by omega
    have z3 : ¬ w.1 = 8 := by omega
    unfold mf_288_30 mf_288_36 mf_288_89 mf_288_124 mf_288_130 mf_288_162 mf_288_185
    by_cases z7 : w.1 = 7
    · simp (disch := omega) only [ev_S, ev_P, ↓reduceIte, Nat.reduceEqDiff, Nat.reduceLeDiff, Nat.reduceAdd, Nat.reduceMul, Nat.reduceSub, reduceCtorEq, l32_0, l32_1, l32_2, l32_3, l32_4, l32_5, l32_6, l32_7, l32_8, l32_9, l32_10, l32_11, l32_12, l32_13, l32_14, l32_15, l32_16, l32_17, l32_18, l32_19, l32_20, l32_21, l32_22, l32_23, l32_24, l32_25, l32_26, l32_27, l32_28, l32_29, l32_33, l32_40, l32_41, l32_44, l32_45, l32_59, l32_61, l32_91, l32_93, l32_123, l32_125, z1, z2, z3, z7]
    · simp (disch := omega) only [ev_S, ev_P, ↓reduceIte, Nat.reduceEqDiff, Nat.reduceLeDiff, Nat.reduceAdd, Nat.reduceMul, Nat.reduceSub, reduceCtorEq, l32_0, l32_1, l32_2, l32_3, l32_4, l32_5, l32_6, l32_7, l32_8, l32_9, l32_10, l32_11, l32_12, l32_13, l32_14, l32_15, l32_16, l32_17, l32_18, l32_19, l32_20, l32_21, l32_22, l32_23, l32_24, l32_25, l32_26, l32_27, l32_28, l32_29, l32_33, l32_40, l32_41, l32_44, l32_45, l32_59, l32_61, l32_91, l32_93, l32_123, l32_125, z1, z2, z3, z7]
/-- expressions are read alike (with that much fuel) -/
def SX (N : Nat) (X : Nat → Option zz_C) (b : Nat → Nat) (n p e F : Nat) : Prop := ∀ l i op D code vs cl W cu fs al t s, l ≤ 4 → PE b n p e i op D code code vs cl W cu fs t s → rWn s → HW l W → W.length ≤ 6 * op + l → (al = 0 ∨ ¬ W = []) → 10 * (10 - op) + (10 - l) ≤ F → 1 ≤ D → RX N b n p e l i op D code W cu fs al t s (cf_S0 N X F 186 [.int (Int32.ofNat l)] t)
/-- what is asked of a list -/
def okQ (q a least most : Nat) : Prop := (q = 5 ∨ q = 6 ∨ q = 7) ∧ (q = 7 → a < 28 ∧ least = wlo (a + 11) ∧ most = whi (a + 11)) ∧ (¬ q = 7 → least = 0 ∧ most = 2000)
/-- a list's rounds -/
theorem p_listL {F q a least most pl np : Nat} {nm : Int64} (hN : 170000 ≤ N) (hSX : SX N X b n p e F) (hQ : okQ q a least most) (ho1 : 1 ≤ op) (hF : 10 * (10 - op) + 10 ≤ F) (hWl : W.length + 1 ≤ 6 * op) : ∀ (d i D : Nat) (code code1 : List Ins) (vs : List (List Nat)) (cl : List Cn) (Z : List (Nat × Nat)) (ah : Option (Nat × Nat)) (t : cS) (s : mS) (c m Q : Nat), (TL b n).length ≤ i + d → PE b n p e i op D code code1 vs cl (W ++ [(q, a, c, pl, nm, np)] ++ Z.map bt ++ ahW ah) (List.replicate (c + 1) 0 ++ cu) fs t s → rWn s → code = code1 ++ ahI ah ++ Z.reverse.map twI → okA ah → (∀ z ∈ Z, okS z.1 ∧ lv z.1 ≤ 3) → (∀ hi : i < (TL b n).length, PZ 0 Z (TL b n)[i].1) → c + 1 ≤ i → m ≤ i → c + 1 ≤ most → d < Q → 1 ≤ D → (∃ t' s1 c' i' seg vs' cl' k, cf_194_L8 N X (cf_S0 N X F) Q 0 (Int32.ofNat (if q = 5 then 93 else 41)) (Int32.ofNat least) (Int32.ofNat most) (Int32.ofNat (c + 1)) (Int32.ofNat m) t = some (t', .inl (some (.int (Int32.ofNat c')))) ∧ i < i' ∧ k + i ≤ i' ∧ PE b n p e i' (op - 1) (D + (c' - c)) (code ++ seg) (code ++ seg) vs' cl' W (List.replicate c' 0 ++ cu) fs t' s1 ∧ slt s1 W.length (q, a, c', pl, nm, np) ∧ (least ≤ c' ∧ c + 1 ≤ c') ∧ c' ≤ most ∧ FR p e t t' s s1 ∧ ∀ s2, E2 N q W.length (Int32.ofNat c') s1 = some (s2, some (.int (Int32.ofNat 1))) → ∀ f, LL N (f + k) al (Int32.ofNat 1) s = LL N f al (Int32.ofNat 1) s2) ∨ FLT N b n p e i al (Int32.ofNat 1) t s (cf_194_L8 N X (cf_S0 N X F) Q 0 (Int32.ofNat (if q = 5 then 93 else 41)) (Int32.ofNat least) (Int32.ofNat most) (Int32.ofNat (c + 1)) (Int32.ofNat m) t) := by
  have eL : ∀ Q x2 x3 x4 x5 x6 t, cf_194_L8 N X (cf_S0 N X F) (Q + 1) 0 x2 x3 x4 x5 x6 t = cf_194_30 N X (cf_S0 N X F) (cf_194_L8 N X (cf_S0 N X F) Q) x2 x3 x4 x5 x6 t := fun _ _ _ _ _ _ _ => rfl
  have hlast : (if q = 5 then 93 else 41) < 100 := by split <;> decide
  intro d
  induction d with
  | zero =>
    intro i D code code1 vs cl Z ah t s c m Q hd h
    obtain ⟨hi, _⟩ := h.1.now
    omega
  | succ d ih =>
    intro i D code code1 vs cl Z ah t s c m Q hd h hwn hf hA hz hk hci hmi hcm hdQ hD1
    obtain ⟨Q, rfl⟩ : ∃ Q', Q = Q' + 1 := ⟨Q - 1, by omega⟩
    obtain ⟨hi, e5, e6, e7, hkk, ho, he, hlt, hll⟩ := h.1.now
    have hmost : most ≤ 2000 := by
      rcases hQ.1 with z | z | z
      · rw [(hQ.2.2 (by omega)).2]; exact Nat.le_refl _
      · rw [(hQ.2.2 (by omega)).2]; exact Nat.le_refl _
      · rw [(hQ.2.1 z).2.2]
        unfold whi wnt
        repeat' split
        all_goals omega
    have hHW : ∀ k, HW 0 (W ++ [(q, a, k, pl, nm, np)]) := fun k => Or.inr ⟨W, _, rfl, Or.inl (by have := hQ.1; show 3 ≤ q; omega)⟩
    have hne : ∀ k, al = 0 ∨ ¬ (W ++ [(q, a, k, pl, nm, np)]) = [] := fun k => Or.inr (by simp)
    obtain ⟨s1, a1, a2, a3⟩ := PE.flu (N := N) (al := al) hN h hf hA hz hk (hHW c) (hne c)
    have w1 : rWn s1 := hwn.kp a3.2
    have a1' : ∀ f, LL N (f + 1) al (Int32.ofNat 1) s = mo_bi (mf_288 N s1) (fun s1 y => LL N f al y s1) := fun f => by
      rw [a1 f]
      exact L215 a2.2.2.2.2.1
    obtain ⟨s2, b1, b2, hi', b3⟩ := PE.e1 (N := N) a2 w1 hQ.1 (fun z => (hQ.2.1 z).1) (show c < 2000 by omega)
    have cnt : cf_41 N X t = some (t, .inl (some (.int (Int32.ofNat (TL b n).length)))) := by rw [c_count, h.1.cnt]
    have kn : cf_42 N X t = some (t, .inl (some (.int (Int32.ofNat (ck (TL b n)[i]))))) := by rw [c_kindNow, e5]
    have ff : cf_202 N X (Int32.ofNat 1) (Int32.ofNat 5) t = some (t, .inl none) := c_fine
    have hck : ck (TL b n)[i] = 44 ↔ (TL b n)[i].1 = 44 := ck_sg (by decide)
    rcases b3 with ⟨⟨z1, z2⟩, z3⟩ | ⟨⟨z1, z2, z2'⟩, z3⟩ | ⟨z1, z3⟩
    · -- a comma
      have k44 := hck.mpr z1
      have hcm2 : c + 1 < most := by
        by_cases y : q = 7
        · rw [(hQ.2.1 y).2.2]
          exact z2 y
        · rw [(hQ.2.2 y).2]
          omega
      obtain ⟨t3, s3, d1, d2, d3, d4, d5⟩ := b1.adv (N := N) (X := X) hN (fun _ => by omega)
      have w3 : rWn s3 := (w1.kp b2.2).kp d5
      have sx := hSX 0 (i + 1) op (D + 1) code vs cl (W ++ [(q, a, c + 1, pl, nm, np)]) (List.replicate (c + 1) 0 ++ cu) fs al t3 s3 (by decide) (d3.dn (by omega)) w3 (hHW _) (by rw [List.length_append]; exact hWl) (hne _) hF (by omega)
      have hLL : ∀ f, LL N (f + 1) al (Int32.ofNat 1) s = LL N f al (Int32.ofNat 0) s3 := fun f => by
        rw [a1' f, z3, d2]
        rfl
      have hFR : FR p e t t3 s s3 := a3.tr (b2.tr ⟨d4, d5⟩)
      have hC : cf_194_L8 N X (cf_S0 N X F) (Q + 1) 0 (Int32.ofNat (if q = 5 then 93 else 41)) (Int32.ofNat least) (Int32.ofNat most) (Int32.ofNat (c + 1)) (Int32.ofNat m) t = ko_call 5 (cf_S0 N X F 186 [.int (Int32.ofNat 0)] t3) (fun g1 v1 => co_v v1 (cf_194_L8 N X (cf_S0 N X F) Q 0 (Int32.ofNat (if q = 5 then 93 else 41)) (Int32.ofNat least) (Int32.ofNat most) (Int32.ofNat (c + 1 + 1)) (Int32.ofNat (m + 1)) g1)) := by
        rw [eL]
        unfold cf_194_30 cf_194_39 cf_194_42 cf_194_49 cf_194_54 cf_194_62 cf_194_67 cf_194_71 cf_194_78 cf_194_83
        simp (disch := omega) only [ev_S, ev_C, ↓reduceIte, Nat.reduceEqDiff, Nat.reduceLeDiff, Nat.reduceAdd, Nat.reduceMul, Nat.reduceSub, reduceCtorEq, l32_0, l32_1, l32_2, l32_3, l32_4, l32_5, l32_6, l32_7, l32_8, l32_9, l32_10, l32_11, l32_12, l32_13, l32_14, l32_15, l32_16, l32_17, l32_18, l32_19, l32_20, l32_21, l32_22, l32_23, l32_24, l32_25, l32_26, l32_27, l32_28, l32_29, l32_33, l32_40, l32_41, l32_44, l32_45, l32_59, l32_61, l32_91, l32_93, l32_123, l32_125, cnt, kn, k44, ff, d1, hcm2]
      rw [hC]
      rcases sx with ⟨t4, s4, k4, i4, seg4, code4, vs4, cl4, Z4, ah4, x1, x2, x3, x4, x5, x6, x7, x8, x9, x10⟩ | ⟨t4, s4, k4, x1, x2, x3, x4, x5⟩
      · rw [x1]
        have w4 : rWn s4 := w3.kp x10.2
        rcases ih i4 (D + 1) (code ++ seg4) code4 vs4 cl4 Z4 ah4 t4 s4 (c + 1) (m + 1) Q (by omega) x5 w4 x6 x7 (fun z hh => ⟨(x8 z hh).1, (x8 z hh).2.2⟩) x9 (by omega) (by omega) (by omega) (by omega) (by omega) with ⟨t', s5, c', i', seg, vs', cl', k, y1, y2, y3, y4, y5, y6, y7, y8, y9⟩ | ⟨t', s', k, y1, y2, y3, y4, y5⟩
        · refine Or.inl ⟨t', s5, c', i', seg4 ++ seg, vs', cl', k + k4 + 1, ?_, by omega, by omega, by rw [← List.append_assoc]; exact PE.dn y4 (by omega), y5, ⟨y6.1, by omega⟩, y7, hFR.tr (x10.tr y8), fun s6 he2 f => ?_⟩
          · exact y1
          · rw [show f + (k + k4 + 1) = (f + k + k4) + 1 by omega, hLL, x4]
            exact y9 s6 he2 f
        · refine Or.inr ⟨t', s', k + k4 + 1, y1, by omega, fun f => ?_, y4, hFR.pre (x10.pre y5)⟩
          rw [show f + (k + k4 + 1) = (f + k + k4) + 1 by omega, hLL, x4]
          exact y3 f
      · refine Or.inr ⟨t4, s4, k4 + 1, by rw [x1]; rfl, by omega, fun f => ?_, x4, hFR.pre x5⟩
        rw [show f + (k4 + 1) = (f + k4) + 1 by omega, hLL]
        exact x3 f
    · -- too many
      have k44 := hck.mpr z1
      have z2 : q = 7 := z2
      have z2' : whi (a + 11) ≤ c + 1 := z2'
      have hm2 := (hQ.2.1 z2).2.2
      obtain ⟨t', c1, hi2, c2, c3, c4, c5⟩ := b1.ft (N := N) (X := X) (x := 5) (by omega) (fun _ => by omega)
      have c1' : cf_202 N X (Int32.ofNat 0) (Int32.ofNat 5) t = some (t', .inr ()) := c1
      refine Or.inr ⟨t', _, 2, ?_, by omega, fun f => ?_, c4, a3.pre (b2.pre c5)⟩
      · rw [eL]
        unfold cf_194_30 cf_194_39 cf_194_42 cf_194_49 cf_194_54 cf_194_66 cf_194_67
        simp (disch := omega) only [ev_S, ev_C, ↓reduceIte, Nat.reduceEqDiff, Nat.reduceLeDiff, Nat.reduceAdd, Nat.reduceMul, Nat.reduceSub, reduceCtorEq, l32_0, l32_1, l32_2, l32_3, l32_4, l32_5, l32_6, l32_7, l32_8, l32_9, l32_10, l32_11, l32_12, l32_13, l32_14, l32_15, l32_16, l32_17, l32_18, l32_19, l32_20, l32_21, l32_22, l32_23, l32_24, l32_25, l32_26, l32_27, l32_28, l32_29, l32_33, l32_40, l32_41, l32_44, l32_45, l32_59, l32_61, l32_91, l32_93, l32_123, l32_125, cnt, kn, k44, c1']
        rfl
      · rw [show f + 2 = (f + 1) + 1 by omega, a1', z3, c3, c2]
        exact LL_f (N := N) (x := 5) rfl (by omega)
    · -- the end
      have k44 : ¬ ck (TL b n)[i] = 44 := fun y => z1 (hck.mp y)
      have w2 : rWn s2 := w1.kp b2.2
      have hC : cf_194_L8 N X (cf_S0 N X F) (Q + 1) 0 (Int32.ofNat (if q = 5 then 93 else 41)) (Int32.ofNat least) (Int32.ofNat most) (Int32.ofNat (c + 1)) (Int32.ofNat m) t = cf_194_92 N X (cf_S0 N X F) (Int32.ofNat (if q = 5 then 93 else 41)) (Int32.ofNat least) (Int32.ofNat (c + 1)) t := by
        rw [eL]
        unfold cf_194_30 cf_194_39 cf_194_42 cf_194_49
        simp (disch := omega) only [ev_S, ev_C, ↓reduceIte, Nat.reduceEqDiff, Nat.reduceLeDiff, Nat.reduceAdd, Nat.reduceMul, Nat.reduceSub, reduceCtorEq, l32_0, l32_1, l32_2, l32_3, l32_4, l32_5, l32_6, l32_7, l32_8, l32_9, l32_10, l32_11, l32_12, l32_13, l32_14, l32_15, l32_16, l32_17, l32_18, l32_19, l32_20, l32_21, l32_22, l32_23, l32_24, l32_25, l32_26, l32_27, l32_28, l32_29, l32_33, l32_40, l32_41, l32_44, l32_45, l32_59, l32_61, l32_91, l32_93, l32_123, l32_125, cnt, kn, k44]
      rw [hC]
      rcases PE.en (N := N) (X := X) (rk := cf_S0 N X F) (q := q) (c := c + 1) (least := least) hN b1 w2 rfl hQ.1 rfl (by omega) ho1 ⟨fun y => (hQ.2.2 y).1, fun y => ⟨(hQ.2.1 y).1, (hQ.2.1 y).2.1, by have := (hQ.2.1 y).2.2; show c + 1 ≤ whi (a + 11); omega⟩⟩ with ⟨t', s', y1, y2, y3, y4, y5, y6⟩ | ⟨t', s', y1, y2, y3, y4⟩
      · refine Or.inl ⟨t', s', c + 1, i + 1, [], vs, cl, 1, y1, by omega, by omega, by rw [List.append_nil]; exact PE.dn y3 (by omega), y4, ⟨y5, Nat.le_refl _⟩, hcm, a3.tr (b2.tr y6), fun s6 he2 f => ?_⟩
        rw [a1', z3, y2, he2]
        rfl
      · obtain ⟨x, y, v1, v2, v3, v4, v5, v6, v7⟩ := y3
        refine Or.inr ⟨t', s', 2, y1, by omega, fun f => ?_, ⟨x, y, v1, v2, v3, v4, v5, v6, v7⟩, a3.pre (b2.pre y4)⟩
        rw [show f + 2 = (f + 1) + 1 by omega, a1', z3, y2]
        exact LL_f (N := N) v6 ⟨v1, v2⟩
end LIS
end
-- ### 89x.pure.lean.txt
section
/-! ===== PURE: a list (2); what an atom starts with ===== -/
section LIT
variable {N : Nat} {X : Nat → Option zz_C} {t t' : cS} {s s' s1 s2 : mS} {b : Nat → Nat} {n p e i op D D' : Nat} {code code1 code2 fl : List Ins} {vs : List (List Nat)} {cl : List Cn} {W W' : List Wt} {cu cu' : List Nat} {fs : Nat × Nat × Nat} {al : Int32} {rk : Nat → List Value → cS → kO} {Z : List (Nat × Nat)} {ah : Option (Nat × Nat)}
theorem p_list {F q a least most pl np : Nat} {nm : Int64} (hN : 170000 ≤ N) (hSX : SX N X b n p e F) (hQ : okQ q a least most) (ho1 : 1 ≤ op) (hF : 10 * (10 - op) + 10 ≤ F) (hWl : W.length + 1 ≤ 6 * op) (h : PE b n p e i op D code code vs cl (W ++ [(q, a, 0, pl, nm, np)]) cu fs t s) (hwn : rWn s) (hD1 : 1 ≤ D) : (∃ t' s1 c' i' seg vs' cl' k, cf_194_5 N X (cf_S0 N X F) (Int32.ofNat (if q = 5 then 93 else 41)) (Int32.ofNat least) (Int32.ofNat most) t = some (t', .inl (some (.int (Int32.ofNat c')))) ∧ i < i' ∧ k + i ≤ i' ∧ PE b n p e i' (op - 1) (D + c' + (1 - c')) (code ++ seg) (code ++ seg) vs' cl' W (List.replicate c' 0 ++ cu) fs t' s1 ∧ slt s1 W.length (q, a, c', pl, nm, np) ∧ least ≤ c' ∧ c' ≤ most ∧ FR p e t t' s s1 ∧ ∀ s2, E2 N q W.length (Int32.ofNat c') s1 = some (s2, some (.int (Int32.ofNat 1))) → ((∀ hi : i < (TL b n).length, (TL b n)[i].1 = (if q = 5 then 93 else 41) → mf_290 N s = some (s2, some (.int (Int32.ofNat 1)))) ∧ ((∀ hi : i < (TL b n).length, ¬ (TL b n)[i].1 = (if q = 5 then 93 else 41)) → ∀ f, LL N (f + k) al (Int32.ofNat 0) s = LL N f al (Int32.ofNat 1) s2))) ∨ (∃ t' s' k, cf_194_5 N X (cf_S0 N X F) (Int32.ofNat (if q = 5 then 93 else 41)) (Int32.ofNat least) (Int32.ofNat most) t = some (t', .inr ()) ∧ k + i ≤ (TL b n).length + 1 ∧ pF t' s' ∧ FX p e t t' s s' ∧ (∀ hi : i < (TL b n).length, (TL b n)[i].1 = (if q = 5 then 93 else 41) → mf_290 N s = some (s', some (.int (Int32.ofNat 1)))) ∧ ((∀ hi : i < (TL b n).length, ¬ (TL b n)[i].1 = (if q = 5 then 93 else 41)) → ∀ f, LL N (f + k) al (Int32.ofNat 0) s = some (s', none))) := by
  obtain ⟨hi, e5, e6, e7, hkk, ho, he, hlt, hll⟩ := h.1.now
  have hlast : (if q = 5 then 93 else 41) < 100 := by split <;> decide
  have kn : cf_42 N X t = some (t, .inl (some (.int (Int32.ofNat (ck (TL b n)[i]))))) := by rw [c_kindNow, e5]
  have hck : ck (TL b n)[i] = (if q = 5 then 93 else 41) ↔ (TL b n)[i].1 = (if q = 5 then 93 else 41) := ck_sg (by split <;> decide)
  have hHW : HW 0 (W ++ [(q, a, 0, pl, nm, np)]) := Or.inr ⟨W, _, rfl, Or.inl (by have := hQ.1; show 3 ≤ q; omega)⟩
  have hne : al = 0 ∨ ¬ (W ++ [(q, a, 0, pl, nm, np)]) = [] := Or.inr (by simp)
  by_cases z : (TL b n)[i].1 = (if q = 5 then 93 else 41)
  · have k1 := hck.mpr z
    have hC : cf_194_5 N X (cf_S0 N X F) (Int32.ofNat (if q = 5 then 93 else 41)) (Int32.ofNat least) (Int32.ofNat most) t = cf_194_92 N X (cf_S0 N X F) (Int32.ofNat (if q = 5 then 93 else 41)) (Int32.ofNat least) (Int32.ofNat 0) t := by
      unfold cf_194_5 cf_194_15
      simp (disch := omega) only [ev_S, ev_C, ↓reduceIte, Nat.reduceEqDiff, Nat.reduceLeDiff, Nat.reduceAdd, Nat.reduceMul, Nat.reduceSub, reduceCtorEq, l32_0, l32_1, l32_2, l32_3, l32_4, l32_5, l32_6, l32_7, l32_8, l32_9, l32_10, l32_11, l32_12, l32_13, l32_14, l32_15, l32_16, l32_17, l32_18, l32_19, l32_20, l32_21, l32_22, l32_23, l32_24, l32_25, l32_26, l32_27, l32_28, l32_29, l32_33, l32_40, l32_41, l32_44, l32_45, l32_59, l32_61, l32_91, l32_93, l32_123, l32_125, kn, k1]
    rw [hC]
    rcases PE.en (N := N) (X := X) (rk := cf_S0 N X F) (q := q) (c := 0) (least := least) hN h hwn rfl hQ.1 rfl (by omega) ho1 ⟨fun y => (hQ.2.2 y).1, fun y => ⟨(hQ.2.1 y).1, (hQ.2.1 y).2.1, Nat.zero_le _⟩⟩ with ⟨t', s', y1, y2, y3, y4, y5, y6⟩ | ⟨t', s', y1, y2, y3, y4⟩
    · refine Or.inl ⟨t', s', 0, i + 1, [], vs, cl, 0, y1, by omega, by omega, by rw [List.append_nil]; exact y3, y4, y5, Nat.zero_le _, y6, fun s2 he2 => ⟨fun _ _ => y2.trans he2, fun y => absurd z (y hi)⟩⟩
    · exact Or.inr ⟨t', s', 0, y1, by omega, y3, y4, fun _ _ => y2, fun y => absurd z (y hi)⟩
  · have k1 : ¬ ck (TL b n)[i] = (if q = 5 then 93 else 41) := fun y => z (hck.mp y)
    have hC : cf_194_5 N X (cf_S0 N X F) (Int32.ofNat (if q = 5 then 93 else 41)) (Int32.ofNat least) (Int32.ofNat most) t = ko_call 5 (cf_S0 N X F 186 [.int (Int32.ofNat 0)] t) (fun g1 v1 => co_v v1 (cf_194_L8 N X (cf_S0 N X F) N 0 (Int32.ofNat (if q = 5 then 93 else 41)) (Int32.ofNat least) (Int32.ofNat most) (Int32.ofNat (0 + 1)) (Int32.ofNat 0) g1)) := by
      unfold cf_194_5 cf_194_15 cf_194_19 cf_194_24
      simp (disch := omega) only [ev_S, ev_C, ↓reduceIte, Nat.reduceEqDiff, Nat.reduceLeDiff, Nat.reduceAdd, Nat.reduceMul, Nat.reduceSub, reduceCtorEq, l32_0, l32_1, l32_2, l32_3, l32_4, l32_5, l32_6, l32_7, l32_8, l32_9, l32_10, l32_11, l32_12, l32_13, l32_14, l32_15, l32_16, l32_17, l32_18, l32_19, l32_20, l32_21, l32_22, l32_23, l32_24, l32_25, l32_26, l32_27, l32_28, l32_29, l32_33, l32_40, l32_41, l32_44, l32_45, l32_59, l32_61, l32_91, l32_93, l32_123, l32_125, kn, k1]
    rw [hC]
    rcases hSX 0 i op D code vs cl (W ++ [(q, a, 0, pl, nm, np)]) cu fs al t s (by decide) h hwn hHW (by rw [List.length_append]; exact hWl) hne hF hD1 with ⟨t4, s4, k4, i4, seg4, code4, vs4, cl4, Z4, ah4, x1, x2, x3, x4, x5, x6, x7, x8, x9, x10⟩ | ⟨t4, s4, k4, x1, x2, x3, x4, x5⟩
    · rw [x1]
      have w4 : rWn s4 := hwn.kp x10.2
      have hm1 : 0 + 1 ≤ most := by
        by_cases y : q = 7
        · rw [(hQ.2.1 y).2.2]
          have := (hQ.2.1 y).1
          unfold whi wnt
          repeat' split
          all_goals omega
        · rw [(hQ.2.2 y).2]
          omega
      rcases p_listL (al := al) hN hSX hQ ho1 hF hWl (TL b n).length i4 D (code ++ seg4) code4 vs4 cl4 Z4 ah4 t4 s4 0 0 N (by omega) x5 w4 x6 x7 (fun z hh => ⟨(x8 z hh).1, (x8 z hh).2.2⟩) x9 (by omega) (by omega) hm1 (by omega) hD1 with ⟨t', s5, c', i', seg, vs', cl', k, y1, y2, y3, y4, y5, y6, y7, y8, y9⟩ | ⟨t', s', k, y1, y2, y3, y4, y5⟩
      · refine Or.inl ⟨t', s5, c', i', seg4 ++ seg, vs', cl', k + k4, y1, by omega, by omega, by rw [← List.append_assoc]; exact PE.dn y4 (by omega), y5, y6.1, y7, x10.tr y8, fun s6 he2 => ⟨fun _ y => absurd y z, fun _ f => ?_⟩⟩
        rw [← Nat.add_assoc, x4]
        exact y9 s6 he2 f
      · refine Or.inr ⟨t', s', k + k4, y1, by omega, y4, x10.pre y5, fun _ y => absurd y z, fun _ f => ?_⟩
        rw [← Nat.add_assoc, x4]
        exact y3 f
    · exact Or.inr ⟨t4, s4, k4, by rw [x1]; rfl, by omega, x4, x5, fun _ y => absurd y z, fun _ f => x3 f⟩
/-! what starts does -/
variable {k : Tk}
theorem st_num (hN : 170000 ≤ N) (hw : rWd s) (h : rTk s k) (hk : k.1 = 2) : mf_286 N s = mf_286_18 N (Int32.ofNat k.2.2.2.1) s := by
  have g0 := r_wordHere hN hw h
  rw [if_neg (by omega)] at g0
  obtain ⟨x1, x2, x3⟩ := h
  have h5 : s.1 5 = Int32.ofNat 2 := by
    rcases x3 with y3 | y3 | y3 | y3 | y3
    · omega
    · omega
    · exact y3.2.1
    · omega
    · omega
  unfold mf_286 mf_286_0 mf_286_9
  simp (disch := omega) only [ev_S, ev_P, ↓reduceIte, Nat.reduceEqDiff, Nat.reduceLeDiff, Nat.reduceAdd, Nat.reduceMul, Nat.reduceSub, reduceCtorEq, l32_0, l32_1, l32_2, l32_3, l32_4, l32_5, l32_6, l32_7, l32_8, l32_9, l32_10, l32_11, l32_12, l32_13, l32_14, l32_15, l32_16, l32_17, l32_18, l32_19, l32_20, l32_21, l32_22, l32_23, l32_24, l32_25, l32_26, l32_27, l32_28, l32_29, l32_33, l32_40, l32_41, l32_44, l32_45, l32_59, l32_61, l32_91, l32_93, l32_123, l32_125, g0, x1, h5]
/-- a sign, or none -/
theorem st_sg (hN : 170000 ≤ N) (hw : rWd s) (h : rTk s k) (hk : ¬ k.1 = 2 ∧ ¬ k.1 = 3) : mf_286 N s = mf_286_37 N (Int32.ofNat k.2.2.2.1) (-Int32.ofNat 1) s ∧ (s.1 5 = Int32.ofNat 0 ∨ s.1 5 = Int32.ofNat 4 ∨ s.1 5 = Int32.ofNat 3) := by
  have g0 := r_wordHere hN hw h
  rw [if_neg hk.2] at g0
  obtain ⟨x1, x2, x3⟩ := h
  have h5 : s.1 5 = Int32.ofNat 0 ∨ s.1 5 = Int32.ofNat 4 ∨ s.1 5 = Int32.ofNat 3 := by
    rcases x3 with y3 | y3 | y3 | y3 | y3
    · exact Or.inl y3.2
    · exact Or.inr (Or.inl y3.2)
    · omega
    · omega
    · exact Or.inr (Or.inr y3.2.2.1)
  refine ⟨?_, h5⟩
  unfold mf_286 mf_286_0 mf_286_9
  rcases h5 with h5 | h5 | h5
  · simp (disch := omega) only [ev_S, ev_P, ↓reduceIte, Nat.reduceEqDiff, Nat.reduceLeDiff, Nat.reduceAdd, Nat.reduceMul, Nat.reduceSub, reduceCtorEq, l32_0, l32_1, l32_2, l32_3, l32_4, l32_5, l32_6, l32_7, l32_8, l32_9, l32_10, l32_11, l32_12, l32_13, l32_14, l32_15, l32_16, l32_17, l32_18, l32_19, l32_20, l32_21, l32_22, l32_23, l32_24, l32_25, l32_26, l32_27, l32_28, l32_29, l32_33, l32_40, l32_41, l32_44, l32_45, l32_59, l32_61, l32_91, l32_93, l32_123, l32_125, g0, x1, h5]
  · simp (disch := omega) only [ev_S, ev_P, ↓reduceIte, Nat.reduceEqDiff, Nat.reduceLeDiff, Nat.reduceAdd, Nat.reduceMul, Nat.reduceSub, reduceCtorEq, l32_0, l32_1, l32_2, l32_3, l32_4, l32_5, l32_6, l32_7, l32_8, l32_9, l32_10, l32_11, l32_12, l32_13, l32_14, l32_15, l32_16, l32_17, l32_18, l32_19, l32_20, l32_21, l32_22, l32_23, l32_24, l32_25, l32_26, l32_27, l32_28, l32_29, l32_33, l32_40, l32_41, l32_44, l32_45, l32_59, l32_61, l32_91, l32_93, l32_123, l32_125, g0, x1, h5]
  · simp (disch := omega) only [ev_S, ev_P, ↓reduceIte, Nat.reduceEqDiff, Nat.reduceLeDiff, Nat.reduceAdd, Nat.reduceMul, Nat.reduceSub, reduceCtorEq, l32_0, l32_1, l32_2, l32_3, l32_4, l32_5, l32_6, l32_7, l32_8, l32_9, l32_10, l32_11, l32_12, l32_13, l32_14, l32_15, l32_16, l32_17, l32_18, l32_19, l32_20, l32_21, l32_22, l32_23, l32_24, l32_25, l32_26, l32_27, l32_28, l32_29, l32_33, l32_40, l32_41, l32_44, l32_45, l32_59, l32_61, l32_91, l32_93, l32_123, l32_125, g0, x1, h5]
theorem st_ahead (hN : 170000 ≤ N) (hw : rWd s) (h : rTk s k) (hk : k.1 = 45 ∨ k.1 = 33) (hu : mf_283 N (Int32.ofNat 2) s = some (s, some (.int (Int32.ofNat 0)))) : mf_286 N s = mf_286_63 N (Int32.ofNat k.2.2.2.1) s := by
  have g1 := r_isSign (N := N) (c := 45) h (by decide) (by decide)
  have g2 := r_isSign (N := N) (c := 33) h (by decide) (by decide)
  rw [(st_sg hN hw h (by omega)).1]
  rcases hk with z | z
  · rw [if_pos z] at g1
    unfold mf_286_37 mf_286_43 mf_286_55 mf_286_60
    simp (disch := omega) only [ev_S, ev_P, ↓reduceIte, Nat.reduceEqDiff, Nat.reduceLeDiff, Nat.reduceAdd, Nat.reduceMul, Nat.reduceSub, reduceCtorEq, l32_0, l32_1, l32_2, l32_3, l32_4, l32_5, l32_6, l32_7, l32_8, l32_9, l32_10, l32_11, l32_12, l32_13, l32_14, l32_15, l32_16, l32_17, l32_18, l32_19, l32_20, l32_21, l32_22, l32_23, l32_24, l32_25, l32_26, l32_27, l32_28, l32_29, l32_33, l32_40, l32_41, l32_44, l32_45, l32_59, l32_61, l32_91, l32_93, l32_123, l32_125, g1, hu]
  · rw [if_neg (by omega)] at g1
    rw [if_pos z] at g2
    unfold mf_286_37 mf_286_43 mf_286_46 mf_286_52 mf_286_55 mf_286_60
    simp (disch := omega) only [ev_S, ev_P, ↓reduceIte, Nat.reduceEqDiff, Nat.reduceLeDiff, Nat.reduceAdd, Nat.reduceMul, Nat.reduceSub, reduceCtorEq, l32_0, l32_1, l32_2, l32_3, l32_4, l32_5, l32_6, l32_7, l32_8, l32_9, l32_10, l32_11, l32_12, l32_13, l32_14, l32_15, l32_16, l32_17, l32_18, l32_19, l32_20, l32_21, l32_22, l32_23, l32_24, l32_25, l32_26, l32_27, l32_28, l32_29, l32_33, l32_40, l32_41, l32_44, l32_45, l32_59, l32_61, l32_91, l32_93, l32_123, l32_125, g1, g2, hu]
theorem st_80 (hN : 170000 ≤ N) (hw : rWd s) (h : rTk s k) (hk : ¬ k.1 = 2 ∧ ¬ k.1 = 3) (hu : k.1 = 45 ∨ k.1 = 33 → mf_283 N (Int32.ofNat 2) s = some (s, some (.int (Int32.ofNat 1)))) : mf_286 N s = mf_286_80 N (Int32.ofNat k.2.2.2.1) (-Int32.ofNat 1) s := by
  have g1 := r_isSign (N := N) (c := 45) h (by decide) (by decide)
  have g2 := r_isSign (N := N) (c := 33) h (by decide) (by decide)
  rw [(st_sg hN hw h hk).1]
  by_cases z : k.1 = 45
  · rw [if_pos z] at g1
    have hu := hu (Or.inl z)
    unfold mf_286_37 mf_286_43 mf_286_55 mf_286_60
    simp (disch := omega) only [ev_S, ev_P, ↓reduceIte, Nat.reduceEqDiff, Nat.reduceLeDiff, Nat.reduceAdd, Nat.reduceMul, Nat.reduceSub, reduceCtorEq, l32_0, l32_1, l32_2, l32_3, l32_4, l32_5, l32_6, l32_7, l32_8, l32_9, l32_10, l32_11, l32_12, l32_13, l32_14, l32_15, l32_16, l32_17, l32_18, l32_19, l32_20, l32_21, l32_22, l32_23, l32_24, l32_25, l32_26, l32_27, l32_28, l32_29, l32_33, l32_40, l32_41, l32_44, l32_45, l32_59, l32_61, l32_91, l32_93, l32_123, l32_125, g1, hu]
  · rw [if_neg z] at g1
    by_cases z2 : k.1 = 33
    · rw [if_pos z2] at g2
      have hu := hu (Or.inr z2)
      unfold mf_286_37 mf_286_43 mf_286_46 mf_286_52 mf_286_55 mf_286_60
      simp (disch := omega) only [ev_S, ev_P, ↓reduceIte, Nat.reduceEqDiff, Nat.reduceLeDiff, Nat.reduceAdd, Nat.reduceMul, Nat.reduceSub, reduceCtorEq, l32_0, l32_1, l32_2, l32_3, l32_4, l32_5, l32_6, l32_7, l32_8, l32_9, l32_10, l32_11, l32_12, l32_13, l32_14, l32_15, l32_16, l32_17, l32_18, l32_19, l32_20, l32_21, l32_22, l32_23, l32_24, l32_25, l32_26, l32_27, l32_28, l32_29, l32_33, l32_40, l32_41, l32_44, l32_45, l32_59, l32_61, l32_91, l32_93, l32_123, l32_125, g1, g2, hu]
    · rw [if_neg z2] at g2
      unfold mf_286_37 mf_286_43 mf_286_46 mf_286_52
      simp (disch := omega) only [ev_S, ev_P, ↓reduceIte, Nat.reduceEqDiff, Nat.reduceLeDiff, Nat.reduceAdd, Nat.reduceMul, Nat.reduceSub, reduceCtorEq, l32_0, l32_1, l32_2, l32_3, l32_4, l32_5, l32_6, l32_7, l32_8, l32_9, l32_10, l32_11, l32_12, l32_13, l32_14, l32_15, l32_16, l32_17, l32_18, l32_19, l32_20, l32_21, l32_22, l32_23, l32_24, l32_25, l32_26, l32_27, l32_28, l32_29, l32_33, l32_40, l32_41, l32_44, l32_45, l32_59, l32_61, l32_91, l32_93, l32_123, l32_125, g1, g2]
theorem st_group (hN : 170000 ≤ N) (hw : rWd s) (h : rTk s k) (hk : k.1 = 40) : mf_286 N s = mf_286_89 N (Int32.ofNat k.2.2.2.1) s := by
  have g1 := r_isSign (N := N) (c := 40) h (by decide) (by decide)
  rw [if_pos hk] at g1
  rw [st_80 hN hw h (by omega) (by omega)]
  unfold mf_286_80 mf_286_86
  simp (disch := omega) only [ev_S, ev_P, ↓reduceIte, Nat.reduceEqDiff, Nat.reduceLeDiff, Nat.reduceAdd, Nat.reduceMul, Nat.reduceSub, reduceCtorEq, l32_0, l32_1, l32_2, l32_3, l32_4, l32_5, l32_6, l32_7, l32_8, l32_9, l32_10, l32_11, l32_12, l32_13, l32_14, l32_15, l32_16, l32_17, l32_18, l32_19, l32_20, l32_21, l32_22, l32_23, l32_24, l32_25, l32_26, l32_27, l32_28, l32_29, l32_33, l32_40, l32_41, l32_44, l32_45, l32_59, l32_61, l32_91, l32_93, l32_123, l32_125, g1]
theorem st_listed (hN : 170000 ≤ N) (hw : rWd s) (h : rTk s k) (hk : k.1 = 91) : mf_286 N s = mf_286_113 N (Int32.ofNat k.2.2.2.1) s := by
  have g1 := r_isSign (N := N) (c := 40) h (by decide) (by decide)
  have g2 := r_isSign (N := N) (c := 91) h (by decide) (by decide)
  rw [if_neg (by omega)] at g1
  rw [if_pos hk] at g2
  rw [st_80 hN hw h (by omega) (by omega)]
  unfold mf_286_80 mf_286_86 mf_286_104 mf_286_110
  simp (disch := omega) only [ev_S, ev_P, ↓reduceIte, Nat.reduceEqDiff, Nat.reduceLeDiff, Nat.reduceAdd, Nat.reduceMul, Nat.reduceSub, reduceCtorEq, l32_0, l32_1, l32_2, l32_3, l32_4, l32_5, l32_6, l32_7, l32_8, l32_9, l32_10, l32_11, l32_12, l32_13, l32_14, l32_15, l32_16, l32_17, l32_18, l32_19, l32_20, l32_21, l32_22, l32_23, l32_24, l32_25, l32_26, l32_27, l32_28, l32_29, l32_33, l32_40, l32_41, l32_44, l32_45, l32_59, l32_61, l32_91, l32_93, l32_123, l32_125, g1, g2]
theorem st_other (hN : 170000 ≤ N) (hw : rWd s) (h : rTk s k) (hk : ¬ k.1 = 2 ∧ ¬ k.1 = 3 ∧ ¬ k.1 = 40 ∧ ¬ k.1 = 91) (hu : k.1 = 45 ∨ k.1 = 33 → mf_283 N (Int32.ofNat 2) s = some (s, some (.int (Int32.ofNat 1)))) : mf_286 N s = mf_286_215 N s := by
  have g1 := r_isSign (N := N) (c := 40) h (by decide) (by decide)
  have g2 := r_isSign (N := N) (c := 91) h (by decide) (by decide)
  rw [if_neg hk.2.2.1] at g1
  rw [if_neg hk.2.2.2] at g2
  rw [st_80 hN hw h ⟨hk.1, hk.2.1⟩ hu]
  obtain ⟨-, h5⟩ := st_sg hN hw h ⟨hk.1, hk.2.1⟩
  unfold mf_286_80 mf_286_86 mf_286_104 mf_286_110 mf_286_155 mf_286_187
  rcases h5 with h5 | h5 | h5
  · simp (disch := omega) only [ev_S, ev_P, ↓reduceIte, Nat.reduceEqDiff, Nat.reduceLeDiff, Nat.reduceAdd, Nat.reduceMul, Nat.reduceSub, reduceCtorEq, l32_0, l32_1, l32_2, l32_3, l32_4, l32_5, l32_6, l32_7, l32_8, l32_9, l32_10, l32_11, l32_12, l32_13, l32_14, l32_15, l32_16, l32_17, l32_18, l32_19, l32_20, l32_21, l32_22, l32_23, l32_24, l32_25, l32_26, l32_27, l32_28, l32_29, l32_33, l32_40, l32_41, l32_44, l32_45, l32_59, l32_61, l32_91, l32_93, l32_123, l32_125, g1, g2, h5]
  · simp (disch := omega) only [ev_S, ev_P, ↓reduceIte, Nat.reduceEqDiff, Nat.reduceLeDiff, Nat.reduceAdd, Nat.reduceMul, Nat.reduceSub, reduceCtorEq, l32_0, l32_1, l32_2, l32_3, l32_4, l32_5, l32_6, l32_7, l32_8, l32_9, l32_10, l32_11, l32_12, l32_13, l32_14, l32_15, l32_16, l32_17, l32_18, l32_19, l32_20, l32_21, l32_22, l32_23, l32_24, l32_25, l32_26, l32_27, l32_28, l32_29, l32_33, l32_40, l32_41, l32_44, l32_45, l32_59, l32_61, l32_91, l32_93, l32_123, l32_125, g1, g2, h5]
  · simp (disch := omega) only [ev_S, ev_P, ↓reduceIte, Nat.reduceEqDiff, Nat.reduceLeDiff, Nat.reduceAdd, Nat.reduceMul, Nat.reduceSub, reduceCtorEq, l32_0, l32_1, l32_2, l32_3, l32_4, l32_5, l32_6, l32_7, l32_8, l32_9, l32_10, l32_11, l32_12, l32_13, l32_14, l32_15, l32_16, l32_17, l32_18, l32_19, l32_20, l32_21, l32_22, l32_23, l32_24, l32_25, l32_26, l32_27, l32_28, l32_29, l32_33, l32_40, l32_41, l32_44, l32_45, l32_59, l32_61, l32_91, l32_93, l32_123, l32_125, g1, g2, h5]
end LIT
end
-- ### 89y.pure.lean.txt
section
/-! ===== PURE: a call's name waits; a call is noted (both sides) ===== -/
section CAL
variable {N : Nat} {X : Nat → Option zz_C} {t t' : cS} {s s' s1 s2 : mS} {b : Nat → Nat} {n p e i op D D' : Nat} {code code1 code2 fl : List Ins} {vs : List (List Nat)} {cl : List Cn} {W W' : List Wt} {cu cu' : List Nat} {fs : Nat × Nat × Nat} {al : Int32} {rk : Nat → List Value → cS → kO} {Z : List (Nat × Nat)} {ah : Option (Nat × Nat)}
theorem i32_ex (x : Int32) : ∃ y : Nat, x = Int32.ofNat y := ⟨x.toBitVec.toNat, by
  apply Int32.toBitVec_inj.mp
  rw [Int32.toBitVec_ofNat']
  simp⟩
theorem r_waitN {k a q : Nat} (h : rW s W) (hl : W.length < 80) (hk : k ≤ 8) : ∃ s' v y, mf_281 N (Int32.ofNat k) (Int32.ofNat a) (Int32.ofNat q) s = some (s', none) ∧ rW s' (W ++ [(k, a, 0, q, v, y)]) ∧ fW s s' := by
  obtain ⟨h1, h2, h3⟩ := h
  obtain ⟨y, hy⟩ := i32_ex (s.2.2.1 43 W.length)
  have ll : (W ++ [(k, a, 0, q, s.2.2.2 42 W.length, y)]).length = W.length + 1 := List.length_append
  refine ⟨mI (mA (mA (mA (mA s 38 (upd (s.2.2.1 38) W.length (Int32.ofNat k))) 39 (upd (s.2.2.1 39) W.length (Int32.ofNat a))) 40 (upd (s.2.2.1 40) W.length (Int32.ofNat 0))) 41 (upd (s.2.2.1 41) W.length (Int32.ofNat q))) 44 (Int32.ofNat (W.length + 1)), s.2.2.2 42 W.length, y, ?_, ⟨by rw [ll]; rfl, by rw [ll]; omega, fun i hi => ?_⟩, ⟨fun q r => if_neg r, fun _ _ => rfl, fun q r => ?_, fun _ _ => rfl⟩⟩
  · repeat ((first | unfold mf_281 | unfold mf_281_0); try simp (disch := omega) only [ev_S, ev_P, ↓reduceIte, Nat.reduceEqDiff, Nat.reduceLeDiff, Nat.reduceAdd, Nat.reduceMul, Nat.reduceSub, reduceCtorEq, l32_0, l32_1, l32_2, l32_3, l32_4, l32_38, l32_39, l32_40, l32_41, l32_44, h1])
  · rw [ll] at hi
    by_cases c : i < W.length
    · rw [List.getElem_append_left c]
      obtain ⟨q1, q2, q3, q4, q5, q6⟩ := h3 i c
      exact ⟨(upd_n (by omega)).trans q1, (upd_n (by omega)).trans q2, (upd_n (by omega)).trans q3, (upd_n (by omega)).trans q4, q5, q6⟩
    · have ei : i = W.length := by omega
      subst ei
      rw [List.getElem_append_right (Nat.le_refl _)]
      simp only [Nat.sub_self, List.getElem_cons_zero]
      exact ⟨if_pos rfl, if_pos rfl, if_pos rfl, if_pos rfl, hk, fun _ => ⟨rfl, hy⟩⟩
  · show (if q = 41 then _ else if q = 40 then _ else if q = 39 then _ else if q = 38 then _ else s.2.2.1 q) = _
    rw [if_neg (by omega), if_neg (by omega), if_neg (by omega), if_neg (by omega)]
theorem rW.nm {w : Wt} {v : Int64} {x : Nat} (h : rW s (W ++ [w])) : rW (mA (mB s 42 (vp_updL (s.2.2.2 42) W.length v)) 43 (upd (s.2.2.1 43) W.length (Int32.ofNat x))) (W ++ [(w.1, w.2.1, w.2.2.1, w.2.2.2.1, v, x)]) ∧ fW s (mA (mB s 42 (vp_updL (s.2.2.2 42) W.length v)) 43 (upd (s.2.2.1 43) W.length (Int32.ofNat x))) := by
  obtain ⟨h1, h2, h3⟩ := h
  have ll : (W ++ [w]).length = W.length + 1 := List.length_append
  have ll2 : (W ++ [(w.1, w.2.1, w.2.2.1, w.2.2.2.1, v, x)]).length = W.length + 1 := List.length_append
  refine ⟨⟨by rw [ll2, ← ll]; exact h1, by rw [ll2, ← ll]; exact h2, fun i hi => ?_⟩, ⟨fun _ _ => rfl, fun _ _ => rfl, fun q r => ?_, fun q r => ?_⟩⟩
  · rw [ll2] at hi
    by_cases c : i < W.length
    · have h4 := h3 i (by omega)
      rw [List.getElem_append_left c] at h4 ⊢
      obtain ⟨q1, q2, q3, q4, q5, q6⟩ := h4
      refine ⟨q1, q2, q3, q4, q5, fun z => ⟨?_, (upd_n (by omega)).trans (q6 z).2⟩⟩
      show vp_updL (s.2.2.2 42) W.length v i = _
      unfold vp_updL
      rw [if_neg (by omega)]
      exact (q6 z).1
    · have ei : i = W.length := by omega
      subst ei
      have h4 := h3 W.length (by omega)
      rw [List.getElem_append_right (Nat.le_refl _)] at h4 ⊢
      simp only [Nat.sub_self, List.getElem_cons_zero] at h4 ⊢
      obtain ⟨q1, q2, q3, q4, q5, q6⟩ := h4
      exact ⟨q1, q2, q3, q4, q5, fun _ => ⟨if_pos rfl, if_pos rfl⟩⟩
  · show (if q = 43 then _ else s.2.2.1 q) = _
    rw [if_neg (by omega)]
  · show (if q = 42 then _ else s.2.2.2 q) = _
    rw [if_neg (by omega)]
/-- a call is noted -/
theorem PEg.nt {x : Cn} {cp : List Cn} (h : PEg b n p e i op D code code1 vs cl cp W cu fs t s) (hx : okN code x) (hD : D' + 1 ≤ D) (hle : cl.length + 1 ≤ rl code) : ∃ t' s', cf_198 N X (cK code x).1 (cK code x).2.1 (cK code x).2.2.1 (cK code x).2.2.2 t = some (t', .inl none) ∧ mf_273 N (rK e code x).1 (rK e code x).2.1 (rK e code x).2.2.1 (rK e code x).2.2.2 s = some (s', none) ∧ PEg b n p e i op D' code code1 vs (cl ++ [x]) cp W cu fs t' s' ∧ FR p e t t' s s' := by
  have hrl := h.rle
  obtain ⟨h1, hc, hr, hw, hW, hV, k1, k2, k3, k4, k5, k6, k7⟩ := h
  have hp := hc.2.1
  have hrm : rmG t := h1.1.2.2.2.2.2.2.2
  obtain ⟨hi, e5, e6, e7, hkk, ho, he, hlt, hll⟩ := h1.now
  obtain ⟨t', a1, a2, g, gl⟩ := c_note (N := N) (X := X) (a := (cK code x).1) (v := (cK code x).2.1) (c := (cK code x).2.2.1) (d := (cK code x).2.2.2) k1 hrm (by rw [List.length_map]; omega)
  obtain ⟨s', b1, b2, f⟩ := r_called (N := N) (a := (rK e code x).1) (v := (rK e code x).2.1) (c := (rK e code x).2.2.1) (d := (rK e code x).2.2.2) k2 (by rw [List.length_map]; omega)
  have hq : pR b n i op t' s := h1.kC g gl (fun k f z => by omega) (fun k z => by omega)
  refine ⟨t', s', a1, b1, ⟨hq.kR (fun q z => f.1 q (by omega)) (f.2.1 7 (fun z => z)) (f.2.2.1 2 (by omega)) (f.2.2.2 0 (by omega)), hc.keep g (fun z => by rcases hp with y | y <;> omega) (fun k z => by rcases hp with y | y <;> omega) (g.p21 (by omega)), hr.keep (f.1 12 (by omega)) (f.1 28 (by omega)) (fun q _ => f.2.2.1 q (by omega)), hw, hW.keep (f.1 44 (by omega)) (fun q _ => f.2.2.1 q (by omega)) (f.2.2.2 42 (by omega)), hV.keep (g.1 2 4 (by omega)) (g.2.2.1 7 (by omega) (by decide)).2.1 (f.1 22 (by omega)) (f.2.2.2 21 (by omega)), ?_, ?_, ?_, k4, ?_, ?_, by omega⟩, g.mono (fun k f z => Or.inr (Or.inl (by omega))) (fun k z => by unfold aQ; omega), fN.Q f⟩
  · rw [List.map_append]
    exact a2
  · rw [List.map_append]
    exact b2
  · refine ⟨fun y hy => ?_, k3.2⟩
    rw [List.mem_append, List.mem_singleton] at hy
    rcases hy with hy | hy
    · exact k3.1 y hy
    · rw [hy]
      exact hx
  · rw [List.length_append, List.length_singleton]
    omega
  · rw [List.length_append, List.length_singleton]
    exact hle
end CAL
end
-- ### 89z.pure.lean.txt
section
/-! ===== PURE: atoms (1) ===== -/
section ATO
variable {N : Nat} {X : Nat → Option zz_C} {t t' : cS} {s s' s0 s1 s2 : mS} {b : Nat → Nat} {n p e i i0 op D D' : Nat} {code code1 code2 fl : List Ins} {vs : List (List Nat)} {cl : List Cn} {W W' : List Wt} {cu cu' : List Nat} {fs : Nat × Nat × Nat} {al : Int32} {rk : Nat → List Value → cS → kO} {Z : List (Nat × Nat)} {ah : Option (Nat × Nat)}
/-- both write -/
theorem PEg.bo {c : Ins} {cp : List Cn} {js : Nat} {k a v x1 x2 x3 x4 : Int32} (h : PEg b n p e i op D code code vs cl cp W cu fs t s) (hcv : c.1 = 9 ∨ c.1 = 10 → ∃ x ∈ cp, x.1 = code.length) (hjs : (js = fs.2.1 ∧ noJ c) ∨ js = code.length + 1) (hI : cI code (posC code code.length) c = [(k, a, v)]) (hR : rI e code c = [(x1, x2, x3, 0, x4)]) (hc : tgO code.length c) (he : eff c cu = some cu') (ho : okI vs.length c) (hD : D' + 1 ≤ D) (hD2 : rlen c + xlen c ≤ 1 ∨ D' + (rlen c + xlen c) ≤ D) : ∃ t' s', cf_209 N X p k a v t = some (t', .inl (some (.int (Int32.ofNat (cx code))))) ∧ mf_271 N x1 x2 x3 x4 s = some (s', some (.int (Int32.ofNat (ob0 e + rl code)))) ∧ PEg b n p e i op D' (code ++ [c]) (code ++ [c]) vs cl cp W cu' (fs.1, js, fs.2.2) t' s' ∧ FR p e t t' s s' ∧ fO e s s' := by
  have hrl := h.rle
  obtain ⟨t', a1, a2, a3⟩ := h.em1 (N := N) (X := X) hcv hjs hI hc he ho hD hD2
  obtain ⟨s', b1, b2, b3⟩ := r_order (N := N) (x1 := x1) (x2 := x2) (x3 := x3) (x4 := x4) a2.2.2.1 (by rw [RA_len]; omega)
  rw [RA_len] at b1
  obtain ⟨c1, c2⟩ := a2.rEm (fl := []) (s' := s') hc rfl (by rw [hR]; exact b2) b3
  exact ⟨t', s', a1, b1, c1, a3.tr c2, b3⟩
theorem PE.bo {c : Ins} {k a v x1 x2 x3 x4 : Int32} (h : PE b n p e i op D code code vs cl W cu fs t s) (hI : cI code (posC code code.length) c = [(k, a, v)]) (hR : rI e code c = [(x1, x2, x3, 0, x4)]) (hc : tgO code.length c) (he : eff c cu = some cu') (ho : okI vs.length c) (hD : D' + 1 ≤ D) (hD2 : rlen c + xlen c ≤ 1 ∨ D' + (rlen c + xlen c) ≤ D) (hx : xp c := by unfold xp noJ; simp) : ∃ t' s', cf_209 N X p k a v t = some (t', .inl (some (.int (Int32.ofNat (cx code))))) ∧ mf_271 N x1 x2 x3 x4 s = some (s', some (.int (Int32.ofNat (ob0 e + rl code)))) ∧ PE b n p e i op D' (code ++ [c]) (code ++ [c]) vs cl W cu' fs t' s' ∧ FR p e t t' s s' ∧ fO e s s' := PEg.bo h (fun z => absurd z hx.1) (Or.inl ⟨rfl, hx.2⟩) hI hR hc he ho hD hD2
/-- a list, and how its start is told -/
theorem p_list2 {F q a least most pl np : Nat} {nm : Int64} (hN : 170000 ≤ N) (hSX : SX N X b n p e F) (hQ : okQ q a least most) (ho1 : 1 ≤ op) (hF : 10 * (10 - op) + 10 ≤ F) (hWl : W.length + 1 ≤ 6 * op) (h : PE b n p e i op D code code vs cl (W ++ [(q, a, 0, pl, nm, np)]) cu fs t s) (hwn : rWn s) (hD1 : 1 ≤ D) (hi0 : i0 + 1 ≤ i) (H1 : (∀ hi : i < (TL b n).length, (TL b n)[i].1 = (if q = 5 then 93 else 41)) → ∀ s2, mf_290 N s = some (s2, some (.int (Int32.ofNat 1))) → ∀ f, LL N (f + 1) al (Int32.ofNat 0) s0 = LL N f al (Int32.ofNat 1) s2) (H2 : (∀ hi : i < (TL b n).length, ¬ (TL b n)[i].1 = (if q = 5 then 93 else 41)) → ∀ f, LL N (f + 1) al (Int32.ofNat 0) s0 = LL N f al (Int32.ofNat 0) s) : (∃ t' s1 c' i' seg vs' cl' k, cf_194_5 N X (cf_S0 N X F) (Int32.ofNat (if q = 5 then 93 else 41)) (Int32.ofNat least) (Int32.ofNat most) t = some (t', .inl (some (.int (Int32.ofNat c')))) ∧ i < i' ∧ k + i0 ≤ i' ∧ PE b n p e i' (op - 1) (D + c' + (1 - c')) (code ++ seg) (code ++ seg) vs' cl' W (List.replicate c' 0 ++ cu) fs t' s1 ∧ slt s1 W.length (q, a, c', pl, nm, np) ∧ least ≤ c' ∧ c' ≤ most ∧ FR p e t t' s s1 ∧ ∀ s2, E2 N q W.length (Int32.ofNat c') s1 = some (s2, some (.int (Int32.ofNat 1))) → ∀ f, LL N (f + k) al (Int32.ofNat 0) s0 = LL N f al (Int32.ofNat 1) s2) ∨ (∃ t' s' k, cf_194_5 N X (cf_S0 N X F) (Int32.ofNat (if q = 5 then 93 else 41)) (Int32.ofNat least) (Int32.ofNat most) t = some (t', .inr ()) ∧ k + i0 ≤ (TL b n).length + 1 ∧ pF t' s' ∧ FX p e t t' s s' ∧ ∀ f, LL N (f + k) al (Int32.ofNat 0) s0 = some (s', none)) := by
  obtain ⟨hi, -⟩ := h.1.now
  rcases p_list (al := al) hN hSX hQ ho1 hF hWl h hwn hD1 with ⟨t', s1, c', i', seg, vs', cl', k, y1, y2, y3, y4, y5, y6, y7, y8, y9⟩ | ⟨t', s', k, y1, y2, y3, y4, y5, y6⟩
  · by_cases z : (TL b n)[i].1 = (if q = 5 then 93 else 41)
    · refine Or.inl ⟨t', s1, c', i', seg, vs', cl', 1, y1, y2, by omega, y4, y5, y6, y7, y8, fun s2 he2 f => ?_⟩
      exact H1 (fun _ => z) s2 ((y9 s2 he2).1 hi z) f
    · refine Or.inl ⟨t', s1, c', i', seg, vs', cl', k + 1, y1, y2, by omega, y4, y5, y6, y7, y8, fun s2 he2 f => ?_⟩
      rw [← Nat.add_assoc, H2 (fun _ => z)]
      exact (y9 s2 he2).2 (fun _ => z) f
  · by_cases z : (TL b n)[i].1 = (if q = 5 then 93 else 41)
    · refine Or.inr ⟨t', s', 2, y1, by omega, y3, y4, fun f => ?_⟩
      obtain ⟨x, y, v1, v2, v3, v4, v5, v6, v7⟩ := y3
      rw [show f + 2 = (f + 1) + 1 by omega, H1 (fun _ => z) s' (y5 hi z)]
      exact LL_f (N := N) v6 ⟨v1, v2⟩
    · refine Or.inr ⟨t', s', k + 1, y1, by omega, y3, y4, fun f => ?_⟩
      rw [← Nat.add_assoc, H2 (fun _ => z)]
      exact y6 (fun _ => z) f
/-- the reference's wrong at an atom's start -/
theorem p_wr (h : PE b n p e i op D code code1 vs cl W cu fs t s) (hr : mf_286 N s = mf_286_215 N s) : ∃ t', cf_202 N X 0 2 t = some (t', .inr ()) ∧ ∀ R, R = some (t', .inr ()) → FLT N b n p e i al (Int32.ofNat 0) t s R := by
  obtain ⟨hi, -⟩ := h.1.now
  have h9 : s.1 9 = Int32.ofNat 0 := h.1.2.2.2.2.2.2.2.2.2
  obtain ⟨t', s', a1, a2, a3, a4, a5⟩ := p_wrong (N := N) (X := X) h.1
  refine ⟨t', a1, fun R hR => ⟨t', s', 2, hR, by omega, fun f => ?_, a3, a4.mono eP_Q (fun _ z => z.elim), fPs.Q a5, h.oB.kp (a5.1 28 (by omega)), h.szF a4⟩⟩
  obtain ⟨x, y, v1, v2, v3, v4, v5, v6, v7⟩ := a3
  rw [show f + 2 = (f + 1) + 1 by omega, LL_0 h9, hr]
  unfold mf_286_215 mf_286_219
  simp (disch := omega) only [ev_S, ev_P, ↓reduceIte, Nat.reduceEqDiff, Nat.reduceLeDiff, Nat.reduceAdd, Nat.reduceMul, Nat.reduceSub, reduceCtorEq, l32_0, l32_1, l32_2, l32_3, l32_4, l32_5, l32_6, l32_7, l32_8, l32_9, l32_10, l32_11, l32_12, l32_13, l32_14, l32_15, l32_16, l32_17, l32_18, l32_19, l32_20, l32_21, l32_22, l32_23, l32_24, l32_25, l32_26, l32_27, l32_28, l32_29, l32_33, l32_40, l32_41, l32_44, l32_45, l32_59, l32_61, l32_91, l32_93, l32_123, l32_125, a2]
  exact LL_f (N := N) v6 ⟨v1, v2⟩
/-- a number -/
theorem p_num (hN : 170000 ≤ N) (h : PE b n p e i op D code code vs cl W cu fs t s) (hD1 : 1 ≤ D) (hk : ∀ hi : i < (TL b n).length, (TL b n)[i].1 = 2) : RS N b n p e i op D code W cu fs al t s (cf_190 N X rk t) := by
  obtain ⟨hi, e5, e6, e7, hkk, ho, he, hlt, hll⟩ := h.1.now
  have hk := hk hi
  have h9 : s.1 9 = Int32.ofNat 0 := h.1.2.2.2.2.2.2.2.2.2
  have hst := st_num hN h.1.2.2.2.2.2.2.2.1 hkk hk
  have hv : s.2.1 7 = Int64.ofNat (TL b n)[i].2.1 := by
    obtain ⟨y1, y2, y3 | y3 | y3 | y3 | y3⟩ := hkk
    · omega
    · omega
    · exact y3.2.2.1
    · omega
    · omega
  have hc3 : kL t 3 7 = Int64.ofNat (TL b n)[i].2.1 := by
    rw [e7]
    unfold c3
    rw [if_neg (by omega), if_pos hk]
  have hc5 : kI t 3 5 = Int32.ofNat 2 := by
    rw [e5]
    unfold ck
    rw [if_neg (by omega), hk]
  have hP : kP t 2 1 = some p := h.2.1.1
  have hp : (p = 12 ∨ p = 21) = True := eq_true h.2.1.2.1
  obtain ⟨t1, s1, a1, a2, a3, a4, a5⟩ := h.bo (N := N) (X := X) (c := (0, 0, 0, Int32.ofNat (TL b n)[i].2.1, Int32.ofNat (TL b n)[i].2.2.2.1, 0, 0)) (D' := D - 1) (k := Int32.ofNat 0) (a := Int32.ofNat (TL b n)[i].2.1) (v := Int32.ofNat (TL b n)[i].2.2.2.1) (x1 := Int32.ofNat 2) (x2 := Int32.ofNat (TL b n)[i].2.1) (x3 := Int32.ofNat 0) (x4 := Int32.ofNat (TL b n)[i].2.2.2.1) rfl rfl (Or.inr (Or.inl (Nat.zero_le _))) rfl (by unfold okI; simp) (by omega) (Or.inl (by unfold rlen xlen; simp))
  obtain ⟨t2, s2, b1, b2, b3, b4, b5⟩ := a3.adv (N := N) (X := X) hN (fun _ => by omega)
  rw [show D - 1 + 1 = D by omega] at b3
  refine Or.inl ⟨t2, s2, 1, i + 1, [_], vs, cl, ?_, by omega, by omega, fun f => ?_, b3, a4.tr ⟨b4, b5⟩⟩
  · unfold cf_190 cf_190_0 cf_190_7 cf_190_15
    simp (disch := omega) only [ev_S, ev_C, ↓reduceIte, Nat.reduceEqDiff, Nat.reduceLeDiff, Nat.reduceAdd, Nat.reduceMul, Nat.reduceSub, reduceCtorEq, l32_0, l32_1, l32_2, l32_3, l32_4, l32_5, l32_6, l32_7, l32_8, l32_9, l32_10, l32_11, l32_12, l32_13, l32_14, l32_15, l32_16, l32_17, l32_18, l32_19, l32_20, l32_21, l32_22, l32_23, l32_24, l32_25, l32_26, l32_27, l32_28, l32_29, l32_33, l32_40, l32_41, l32_44, l32_45, l32_59, l32_61, l32_91, l32_93, l32_123, l32_125, c_placeNow, c_kindNow, hc5, e6]
    unfold cf_190_56 cf_190_68 cf_190_73 cf_190_81 cf_190_176
    simp (disch := omega) only [ev_S, ev_C, ↓reduceIte, Nat.reduceEqDiff, Nat.reduceLeDiff, Nat.reduceAdd, Nat.reduceMul, Nat.reduceSub, reduceCtorEq, l32_0, l32_1, l32_2, l32_3, l32_4, l32_5, l32_6, l32_7, l32_8, l32_9, l32_10, l32_11, l32_12, l32_13, l32_14, l32_15, l32_16, l32_17, l32_18, l32_19, l32_20, l32_21, l32_22, l32_23, l32_24, l32_25, l32_26, l32_27, l32_28, l32_29, l32_33, l32_40, l32_41, l32_44, l32_45, l32_59, l32_61, l32_91, l32_93, l32_123, l32_125, c_valueNow, hP, hp, hc3, Int64.toInt32_ofNat', a1, b1]
  · rw [LL_0 h9, hst]
    unfold mf_286_18 mf_286_30 mf_286_35
    simp (disch := omega) only [ev_S, ev_P, ↓reduceIte, Nat.reduceEqDiff, Nat.reduceLeDiff, Nat.reduceAdd, Nat.reduceMul, Nat.reduceSub, reduceCtorEq, l32_0, l32_1, l32_2, l32_3, l32_4, l32_5, l32_6, l32_7, l32_8, l32_9, l32_10, l32_11, l32_12, l32_13, l32_14, l32_15, l32_16, l32_17, l32_18, l32_19, l32_20, l32_21, l32_22, l32_23, l32_24, l32_25, l32_26, l32_27, l32_28, l32_29, l32_33, l32_40, l32_41, l32_44, l32_45, l32_59, l32_61, l32_91, l32_93, l32_123, l32_125, hv, Int64.toInt32_ofNat', a2, b2]
theorem ck3 {k : Tk} : ck k = 3 ↔ k.1 = 3 ∧ wix k.2.2.1 = none := by
  unfold ck
  by_cases c : k.1 = 3
  · rw [if_pos c]
    cases wix k.2.2.1 with
    | none => simp [c]
    | some w => simp
  · rw [if_neg c]
    constructor
    · intro h
      exact absurd h c
    · intro h
      exact absurd h.1 c
theorem ck4 {k : Tk} : ck k = 4 ↔ (k.1 = 3 ∧ ∃ w, wix k.2.2.1 = some w) ∨ k.1 = 4 := by
  unfold ck
  by_cases c : k.1 = 3
  · rw [if_pos c]
    cases wix k.2.2.1 with
    | none => simp [c]
    | some w => simp [c]
  · rw [if_neg c]
    constructor
    · intro h
      exact Or.inr h
    · intro h
      rcases h with h | h
      · exact absurd h.1 c
      · exact h
theorem c_nxt (h : pR b n i op t s) (hj : i + 1 < (TL b n).length) : cf_242 N X t = some (t, .inl (some (.int (Int32.ofNat (ck (TL b n)[i + 1]))))) := by
  have h4 : kI t 3 4 = Int32.ofNat i := h.2.1.1
  have h3 := h.cnt
  have hll := h.now
  obtain ⟨hi, e5, e6, e7, hkk, ho, he, hlt, hll⟩ := hll
  have hl : (TL b n).length ≤ (kA t 4).1 := by
    have := h.1.2.2.2.2.1
    rw [List.length_map] at this
    exact this
  have hv := (h.1.2.1 (i + 1) (by rw [List.length_map]; exact hj)).1
  rw [List.getElem_map, c3_1] at hv
  have hb := h.1.2.2.2.2.2.2.1
  unfold cf_242 cf_242_0 cf_242_13 cf_242_28
  simp (disch := omega) only [ev_S, ev_C, ↓reduceIte, Nat.reduceEqDiff, Nat.reduceLeDiff, Nat.reduceAdd, Nat.reduceMul, Nat.reduceSub, reduceCtorEq, l32_0, l32_1, l32_2, l32_3, l32_4, l32_5, l32_6, l32_7, l32_8, l32_9, l32_10, l32_11, l32_12, l32_13, l32_14, l32_15, l32_16, l32_17, l32_18, l32_19, l32_20, l32_21, l32_22, l32_23, l32_24, l32_25, l32_26, l32_27, l32_28, l32_29, l32_33, l32_40, l32_41, l32_44, l32_45, l32_59, l32_61, l32_91, l32_93, l32_123, l32_125, h3, h4, hv]
theorem TL_next (hi : i < (TL b n).length) (h : 2 ≤ (TL b n)[i].1) : ∃ hj : i + 1 < (TL b n).length, (TL b n)[i + 1] = lex b n (TL b n)[i].2.2.2.2 := by
  have h1 := TL_ok hi
  have hj : i + 1 < (TL b n).length := by
    have := h1.2.1
    omega
  exact ⟨hj, h1.2.2 hj⟩
theorem st_word {k : Tk} {w : Nat} (hN : 170000 ≤ N) (hw : rWd s) (h : rTk s k) (hk : k.1 = 3) (hx : wix k.2.2.1 = some w) (hw4 : w < 41) : mf_286 N s = if 11 ≤ w then mf_286_180 N (Int32.ofNat k.2.2.2.1) (Int32.ofNat w) s else mf_286_215 N s := by
  have g0 := r_wordHere hN hw h
  rw [if_pos hk, hx] at g0
  have g1 := r_isSign (N := N) (c := 45) h (by decide) (by decide)
  have g2 := r_isSign (N := N) (c := 33) h (by decide) (by decide)
  have g3 := r_isSign (N := N) (c := 40) h (by decide) (by decide)
  have g4 := r_isSign (N := N) (c := 91) h (by decide) (by decide)
  rw [if_neg (by omega)] at g1 g2 g3 g4
  obtain ⟨x1, x2, x3⟩ := h
  have h5 : s.1 5 = Int32.ofNat 1 := by
    rcases x3 with y3 | y3 | y3 | y3 | y3
    · omega
    · omega
    · omega
    · exact y3.2.1
    · omega
  have g0 : mf_265 N s = some (s, some (.int (Int32.ofNat w))) := g0
  by_cases c : 11 ≤ w
  · rw [if_pos c]
    unfold mf_286 mf_286_0 mf_286_9
    simp (disch := omega) only [ev_S, ev_P, ↓reduceIte, Nat.reduceEqDiff, Nat.reduceLeDiff, Nat.reduceAdd, Nat.reduceMul, Nat.reduceSub, reduceCtorEq, l32_0, l32_1, l32_2, l32_3, l32_4, l32_5, l32_6, l32_7, l32_8, l32_9, l32_10, l32_11, l32_12, l32_13, l32_14, l32_15, l32_16, l32_17, l32_18, l32_19, l32_20, l32_21, l32_22, l32_23, l32_24, l32_25, l32_26, l32_27, l32_28, l32_29, l32_33, l32_40, l32_41, l32_44, l32_45, l32_59, l32_61, l32_91, l32_93, l32_123, l32_125, g0, x1, h5]
    unfold mf_286_37 mf_286_43
    simp (disch := omega) only [ev_S, ev_P, ↓reduceIte, Nat.reduceEqDiff, Nat.reduceLeDiff, Nat.reduceAdd, Nat.reduceMul, Nat.reduceSub, reduceCtorEq, l32_0, l32_1, l32_2, l32_3, l32_4, l32_5, l32_6, l32_7, l32_8, l32_9, l32_10, l32_11, l32_12, l32_13, l32_14, l32_15, l32_16, l32_17, l32_18, l32_19, l32_20, l32_21, l32_22, l32_23, l32_24, l32_25, l32_26, l32_27, l32_28, l32_29, l32_33, l32_40, l32_41, l32_44, l32_45, l32_59, l32_61, l32_91, l32_93, l32_123, l32_125, g1]
    unfold mf_286_46 mf_286_52
    simp (disch := omega) only [ev_S, ev_P, ↓reduceIte, Nat.reduceEqDiff, Nat.reduceLeDiff, Nat.reduceAdd, Nat.reduceMul, Nat.reduceSub, reduceCtorEq, l32_0, l32_1, l32_2, l32_3, l32_4, l32_5, l32_6, l32_7, l32_8, l32_9, l32_10, l32_11, l32_12, l32_13, l32_14, l32_15, l32_16, l32_17, l32_18, l32_19, l32_20, l32_21, l32_22, l32_23, l32_24, l32_25, l32_26, l32_27, l32_28, l32_29, l32_33, l32_40, l32_41, l32_44, l32_45, l32_59, l32_61, l32_91, l32_93, l32_123, l32_125, g2]
    unfold mf_286_80 mf_286_86
    simp (disch := omega) only [ev_S, ev_P, ↓reduceIte, Nat.reduceEqDiff, Nat.reduceLeDiff, Nat.reduceAdd, Nat.reduceMul, Nat.reduceSub, reduceCtorEq, l32_0, l32_1, l32_2, l32_3, l32_4, l32_5, l32_6, l32_7, l32_8, l32_9, l32_10, l32_11, l32_12, l32_13, l32_14, l32_15, l32_16, l32_17, l32_18, l32_19, l32_20, l32_21, l32_22, l32_23, l32_24, l32_25, l32_26, l32_27, l32_28, l32_29, l32_33, l32_40, l32_41, l32_44, l32_45, l32_59, l32_61, l32_91, l32_93, l32_123, l32_125, g3]
    unfold mf_286_104 mf_286_110
    simp (disch := omega) only [ev_S, ev_P, ↓reduceIte, Nat.reduceEqDiff, Nat.reduceLeDiff, Nat.reduceAdd, Nat.reduceMul, Nat.reduceSub, reduceCtorEq, l32_0, l32_1, l32_2, l32_3, l32_4, l32_5, l32_6, l32_7, l32_8, l32_9, l32_10, l32_11, l32_12, l32_13, l32_14, l32_15, l32_16, l32_17, l32_18, l32_19, l32_20, l32_21, l32_22, l32_23, l32_24, l32_25, l32_26, l32_27, l32_28, l32_29, l32_33, l32_40, l32_41, l32_44, l32_45, l32_59, l32_61, l32_91, l32_93, l32_123, l32_125, g4]
    unfold mf_286_155 mf_286_163
    simp (disch := omega) only [ev_S, ev_P, ↓reduceIte, Nat.reduceEqDiff, Nat.reduceLeDiff, Nat.reduceAdd, Nat.reduceMul, Nat.reduceSub, reduceCtorEq, l32_0, l32_1, l32_2, l32_3, l32_4, l32_5, l32_6, l32_7, l32_8, l32_9, l32_10, l32_11, l32_12, l32_13, l32_14, l32_15, l32_16, l32_17, l32_18, l32_19, l32_20, l32_21, l32_22, l32_23, l32_24, l32_25, l32_26, l32_27, l32_28, l32_29, l32_33, l32_40, l32_41, l32_44, l32_45, l32_59, l32_61, l32_91, l32_93, l32_123, l32_125, h5, c]
  · rw [if_neg c]
    unfold mf_286 mf_286_0 mf_286_9
    simp (disch := omega) only [ev_S, ev_P, ↓reduceIte, Nat.reduceEqDiff, Nat.reduceLeDiff, Nat.reduceAdd, Nat.reduceMul, Nat.reduceSub, reduceCtorEq, l32_0, l32_1, l32_2, l32_3, l32_4, l32_5, l32_6, l32_7, l32_8, l32_9, l32_10, l32_11, l32_12, l32_13, l32_14, l32_15, l32_16, l32_17, l32_18, l32_19, l32_20, l32_21, l32_22, l32_23, l32_24, l32_25, l32_26, l32_27, l32_28, l32_29, l32_33, l32_40, l32_41, l32_44, l32_45, l32_59, l32_61, l32_91, l32_93, l32_123, l32_125, g0, x1, h5]
    unfold mf_286_37 mf_286_43
    simp (disch := omega) only [ev_S, ev_P, ↓reduceIte, Nat.reduceEqDiff, Nat.reduceLeDiff, Nat.reduceAdd, Nat.reduceMul, Nat.reduceSub, reduceCtorEq, l32_0, l32_1, l32_2, l32_3, l32_4, l32_5, l32_6, l32_7, l32_8, l32_9, l32_10, l32_11, l32_12, l32_13, l32_14, l32_15, l32_16, l32_17, l32_18, l32_19, l32_20, l32_21, l32_22, l32_23, l32_24, l32_25, l32_26, l32_27, l32_28, l32_29, l32_33, l32_40, l32_41, l32_44, l32_45, l32_59, l32_61, l32_91, l32_93, l32_123, l32_125, g1]
    unfold mf_286_46 mf_286_52
    simp (disch := omega) only [ev_S, ev_P, ↓reduceIte, Nat.reduceEqDiff, Nat.reduceLeDiff, Nat.reduceAdd, Nat.reduceMul, Nat.reduceSub, reduceCtorEq, l32_0, l32_1, l32_2, l32_3, l32_4, l32_5, l32_6, l32_7, l32_8, l32_9, l32_10, l32_11, l32_12, l32_13, l32_14, l32_15, l32_16, l32_17, l32_18, l32_19, l32_20, l32_21, l32_22, l32_23, l32_24, l32_25, l32_26, l32_27, l32_28, l32_29, l32_33, l32_40, l32_41, l32_44, l32_45, l32_59, l32_61, l32_91, l32_93, l32_123, l32_125, g2]
    unfold mf_286_80 mf_286_86
    simp (disch := omega) only [ev_S, ev_P, ↓reduceIte, Nat.reduceEqDiff, Nat.reduceLeDiff, Nat.reduceAdd, Nat.reduceMul, Nat.reduceSub, reduceCtorEq, l32_0, l32_1, l32_2, l32_3, l32_4, l32_5, l32_6, l32_7, l32_8, l32_9, l32_10, l32_11, l32_12, l32_13, l32_14, l32_15, l32_16, l32_17, l32_18, l32_19, l32_20, l32_21, l32_22, l32_23, l32_24, l32_25, l32_26, l32_27, l32_28, l32_29, l32_33, l32_40, l32_41, l32_44, l32_45, l32_59, l32_61, l32_91, l32_93, l32_123, l32_125, g3]
    unfold mf_286_104 mf_286_110
    simp (disch := omega) only [ev_S, ev_P, ↓reduceIte, Nat.reduceEqDiff, Nat.reduceLeDiff, Nat.reduceAdd, Nat.reduceMul, Nat.reduceSub, reduceCtorEq, l32_0, l32_1, l32_2, l32_3, l32_4, l32_5, l32_6, l32_7, l32_8, l32_9, l32_10, l32_11, l32_12, l32_13, l32_14, l32_15, l32_16, l32_17, l32_18, l32_19, l32_20, l32_21, l32_22, l32_23, l32_24, l32_25, l32_26, l32_27, l32_28, l32_29, l32_33, l32_40, l32_41, l32_44, l32_45, l32_59, l32_61, l32_91, l32_93, l32_123, l32_125, g4]
    unfold mf_286_155 mf_286_163 mf_286_169 mf_286_187 mf_286_195
    simp (disch := omega) only [ev_S, ev_P, ↓reduceIte, Nat.reduceEqDiff, Nat.reduceLeDiff, Nat.reduceAdd, Nat.reduceMul, Nat.reduceSub, reduceCtorEq, l32_0, l32_1, l32_2, l32_3, l32_4, l32_5, l32_6, l32_7, l32_8, l32_9, l32_10, l32_11, l32_12, l32_13, l32_14, l32_15, l32_16, l32_17, l32_18, l32_19, l32_20, l32_21, l32_22, l32_23, l32_24, l32_25, l32_26, l32_27, l32_28, l32_29, l32_33, l32_40, l32_41, l32_44, l32_45, l32_59, l32_61, l32_91, l32_93, l32_123, l32_125, h5, c]
theorem st_name {k : Tk} {u : Nat} (hN : 170000 ≤ N) (hw : rWd s) (h : rTk s k) (hk : k.1 = 3) (hx : wix k.2.2.1 = none) (hu : mf_270 N s = some (s, some (.int (Int32.ofNat u)))) (hu2 : u ≤ 1) : mf_286 N s = if u = 1 then mf_286_180 N (Int32.ofNat k.2.2.2.1) (-Int32.ofNat 1) s else mf_286_199 N (Int32.ofNat k.2.2.2.1) s := by
  have g0 := r_wordHere hN hw h
  rw [if_pos hk, hx] at g0
  have g1 := r_isSign (N := N) (c := 45) h (by decide) (by decide)
  have g2 := r_isSign (N := N) (c := 33) h (by decide) (by decide)
  have g3 := r_isSign (N := N) (c := 40) h (by decide) (by decide)
  have g4 := r_isSign (N := N) (c := 91) h (by decide) (by decide)
  rw [if_neg (by omega)] at g1 g2 g3 g4
  obtain ⟨x1, x2, x3⟩ := h
  have h5 : s.1 5 = Int32.ofNat 1 := by
    rcases x3 with y3 | y3 | y3 | y3 | y3
    · omega
    · omega
    · omega
    · exact y3.2.1
    · omega
  have g0 : mf_265 N s = some (s, some (.int (-Int32.ofNat 1))) := g0
  have q1 : (Int32.ofNat 11 ≤ -Int32.ofNat 1) = False := by decide
  have q2 : (Int32.ofNat 0 ≤ -Int32.ofNat 1) = False := by decide
  by_cases c : u = 1
  · rw [if_pos c]
    rw [c] at hu
    unfold mf_286 mf_286_0 mf_286_9
    simp (disch := omega) only [ev_S, ev_P, ↓reduceIte, Nat.reduceEqDiff, Nat.reduceLeDiff, Nat.reduceAdd, Nat.reduceMul, Nat.reduceSub, reduceCtorEq, l32_0, l32_1, l32_2, l32_3, l32_4, l32_5, l32_6, l32_7, l32_8, l32_9, l32_10, l32_11, l32_12, l32_13, l32_14, l32_15, l32_16, l32_17, l32_18, l32_19, l32_20, l32_21, l32_22, l32_23, l32_24, l32_25, l32_26, l32_27, l32_28, l32_29, l32_33, l32_40, l32_41, l32_44, l32_45, l32_59, l32_61, l32_91, l32_93, l32_123, l32_125, g0, x1, h5]
    unfold mf_286_37 mf_286_43
    simp (disch := omega) only [ev_S, ev_P, ↓reduceIte, Nat.reduceEqDiff, Nat.reduceLeDiff, Nat.reduceAdd, Nat.reduceMul, Nat.reduceSub, reduceCtorEq, l32_0, l32_1, l32_2, l32_3, l32_4, l32_5, l32_6, l32_7, l32_8, l32_9, l32_10, l32_11, l32_12, l32_13, l32_14, l32_15, l32_16, l32_17, l32_18, l32_19, l32_20, l32_21, l32_22, l32_23, l32_24, l32_25, l32_26, l32_27, l32_28, l32_29, l32_33, l32_40, l32_41, l32_44, l32_45, l32_59, l32_61, l32_91, l32_93, l32_123, l32_125, g1]
    unfold mf_286_46 mf_286_52
    simp (disch := omega) only [ev_S, ev_P, ↓reduceIte, Nat.reduceEqDiff, Nat.reduceLeDiff, Nat.reduceAdd, Nat.reduceMul, Nat.reduceSub, reduceCtorEq, l32_0, l32_1, l32_2, l32_3, l32_4, l32_5, l32_6, l32_7, l32_8, l32_9, l32_10, l32_11, l32_12, l32_13, l32_14, l32_15, l32_16, l32_17, l32_18, l32_19, l32_20, l32_21, l32_22, l32_23, l32_24, l32_25, l32_26, l32_27, l32_28, l32_29, l32_33, l32_40, l32_41, l32_44, l32_45, l32_59, l32_61, l32_91, l32_93, l32_123, l32_125, g2]
    unfold mf_286_80 mf_286_86
    simp (disch := omega) only [ev_S, ev_P, ↓reduceIte, Nat.reduceEqDiff, Nat.reduceLeDiff, Nat.reduceAdd, Nat.reduceMul, Nat.reduceSub, reduceCtorEq, l32_0, l32_1, l32_2, l32_3, l32_4, l32_5, l32_6, l32_7, l32_8, l32_9, l32_10, l32_11, l32_12, l32_13, l32_14, l32_15, l32_16, l32_17, l32_18, l32_19, l32_20, l32_21, l32_22, l32_23, l32_24, l32_25, l32_26, l32_27, l32_28, l32_29, l32_33, l32_40, l32_41, l32_44, l32_45, l32_59, l32_61, l32_91, l32_93, l32_123, l32_125, g3]
    unfold mf_286_104 mf_286_110
    simp (disch := omega) only [ev_S, ev_P, ↓reduceIte, Nat.reduceEqDiff, Nat.reduceLeDiff, Nat.reduceAdd, Nat.reduceMul, Nat.reduceSub, reduceCtorEq, l32_0, l32_1, l32_2, l32_3, l32_4, l32_5, l32_6, l32_7, l32_8, l32_9, l32_10, l32_11, l32_12, l32_13, l32_14, l32_15, l32_16, l32_17, l32_18, l32_19, l32_20, l32_21, l32_22, l32_23, l32_24, l32_25, l32_26, l32_27, l32_28, l32_29, l32_33, l32_40, l32_41, l32_44, l32_45, l32_59, l32_61, l32_91, l32_93, l32_123, l32_125, g4]
    unfold mf_286_155 mf_286_163 mf_286_169 mf_286_173 mf_286_177
    simp (disch := omega) only [ev_S, ev_P, ↓reduceIte, Nat.reduceEqDiff, Nat.reduceLeDiff, Nat.reduceAdd, Nat.reduceMul, Nat.reduceSub, reduceCtorEq, l32_0, l32_1, l32_2, l32_3, l32_4, l32_5, l32_6, l32_7, l32_8, l32_9, l32_10, l32_11, l32_12, l32_13, l32_14, l32_15, l32_16, l32_17, l32_18, l32_19, l32_20, l32_21, l32_22, l32_23, l32_24, l32_25, l32_26, l32_27, l32_28, l32_29, l32_33, l32_40, l32_41, l32_44, l32_45, l32_59, l32_61, l32_91, l32_93, l32_123, l32_125, h5, q1, q2, hu]
  · rw [if_neg c]
    have c0 : u = 0 := by omega
    rw [c0] at hu
    unfold mf_286 mf_286_0 mf_286_9
    simp (disch := omega) only [ev_S, ev_P, ↓reduceIte, Nat.reduceEqDiff, Nat.reduceLeDiff, Nat.reduceAdd, Nat.reduceMul, Nat.reduceSub, reduceCtorEq, l32_0, l32_1, l32_2, l32_3, l32_4, l32_5, l32_6, l32_7, l32_8, l32_9, l32_10, l32_11, l32_12, l32_13, l32_14, l32_15, l32_16, l32_17, l32_18, l32_19, l32_20, l32_21, l32_22, l32_23, l32_24, l32_25, l32_26, l32_27, l32_28, l32_29, l32_33, l32_40, l32_41, l32_44, l32_45, l32_59, l32_61, l32_91, l32_93, l32_123, l32_125, g0, x1, h5]
    unfold mf_286_37 mf_286_43
    simp (disch := omega) only [ev_S, ev_P, ↓reduceIte, Nat.reduceEqDiff, Nat.reduceLeDiff, Nat.reduceAdd, Nat.reduceMul, Nat.reduceSub, reduceCtorEq, l32_0, l32_1, l32_2, l32_3, l32_4, l32_5, l32_6, l32_7, l32_8, l32_9, l32_10, l32_11, l32_12, l32_13, l32_14, l32_15, l32_16, l32_17, l32_18, l32_19, l32_20, l32_21, l32_22, l32_23, l32_24, l32_25, l32_26, l32_27, l32_28, l32_29, l32_33, l32_40, l32_41, l32_44, l32_45, l32_59, l32_61, l32_91, l32_93, l32_123, l32_125, g1]
    unfold mf_286_46 mf_286_52
    simp (disch := omega) only [ev_S, ev_P, ↓reduceIte, Nat.reduceEqDiff, Nat.reduceLeDiff, Nat.reduceAdd, Nat.reduceMul, Nat.reduceSub, reduceCtorEq, l32_0, l32_1, l32_2, l32_3, l32_4, l32_5, l32_6, l32_7, l32_8, l32_9, l32_10, l32_11, l32_12, l32_13, l32_14, l32_15, l32_16, l32_17, l32_18, l32_19, l32_20, l32_21, l32_22, l32_23, l32_24, l32_25, l32_26, l32_27, l32_28, l32_29, l32_33, l32_40, l32_41, l32_44, l32_45, l32_59, l32_61, l32_91, l32_93, l32_123, l32_125, g2]
    unfold mf_286_80 mf_286_86
    simp (disch := omega) only [ev_S, ev_P, ↓reduceIte, Nat.reduceEqDiff, Nat.reduceLeDiff, Nat.reduceAdd, Nat.reduceMul, Nat.reduceSub, reduceCtorEq, l32_0, l32_1, l32_2, l32_3, l32_4, l32_5, l32_6, l32_7, l32_8, l32_9, l32_10, l32_11, l32_12, l32_13, l32_14, l32_15, l32_16, l32_17, l32_18, l32_19, l32_20, l32_21, l32_22, l32_23, l32_24, l32_25, l32_26, l32_27, l32_28, l32_29, l32_33, l32_40, l32_41, l32_44, l32_45, l32_59, l32_61, l32_91, l32_93, l32_123, l32_125, g3]
    unfold mf_286_104 mf_286_110
    simp (disch := omega) only [ev_S, ev_P, ↓reduceIte, Nat.reduceEqDiff, Nat.reduceLeDiff, Nat.reduceAdd, Nat.reduceMul, Nat.reduceSub, reduceCtorEq, l32_0, l32_1, l32_2, l32_3, l32_4, l32_5, l32_6, l32_7, l32_8, l32_9, l32_10, l32_11, l32_12, l32_13, l32_14, l32_15, l32_16, l32_17, l32_18, l32_19, l32_20, l32_21, l32_22, l32_23, l32_24, l32_25, l32_26, l32_27, l32_28, l32_29, l32_33, l32_40, l32_41, l32_44, l32_45, l32_59, l32_61, l32_91, l32_93, l32_123, l32_125, g4]
    unfold mf_286_155 mf_286_163 mf_286_169 mf_286_173 mf_286_177 mf_286_187 mf_286_195
    simp (disch := omega) only [ev_S, ev_P, ↓reduceIte, Nat.reduceEqDiff, Nat.reduceLeDiff, Nat.reduceAdd, Nat.reduceMul, Nat.reduceSub, reduceCtorEq, l32_0, l32_1, l32_2, l32_3, l32_4, l32_5, l32_6, l32_7, l32_8, l32_9, l32_10, l32_11, l32_12, l32_13, l32_14, l32_15, l32_16, l32_17, l32_18, l32_19, l32_20, l32_21, l32_22, l32_23, l32_24, l32_25, l32_26, l32_27, l32_28, l32_29, l32_33, l32_40, l32_41, l32_44, l32_45, l32_59, l32_61, l32_91, l32_93, l32_123, l32_125, h5, q1, q2, hu]
/-- a variable -/
theorem p_get (hN : 170000 ≤ N) (h : PE b n p e i op D code code vs cl W cu fs t s) (hk : ∀ hi : i < (TL b n).length, ck (TL b n)[i] = 3 ∧ ∀ hj : i + 1 < (TL b n).length, ¬ (TL b n)[i + 1].1 = 40) : RS N b n p e i op D code W cu fs al t s (cf_190 N X rk t) := by
  obtain ⟨hi, e5, e6, e7, hkk, ho, he, hlt, hll⟩ := h.1.now
  obtain ⟨hk, hk2⟩ := hk hi
  have h9 : s.1 9 = Int32.ofNat 0 := h.1.2.2.2.2.2.2.2.2.2
  obtain ⟨k1, k2⟩ := ck3.mp hk
  obtain ⟨hj, hj2⟩ := TL_next hi (by omega)
  have hk2 := hk2 hj
  have nx := c_nxt (N := N) (X := X) h.1 hj
  have hnk : ¬ ck (TL b n)[i + 1] = 40 := fun y => hk2 ((ck_sg (by decide)).mp y)
  have bh := r_behind hN h.1.2.2.2.2.2.1 hkk he
  rw [← hj2, if_neg hk2] at bh
  have hst := st_name (u := 0) hN h.1.2.2.2.2.2.2.2.1 hkk k1 k2 bh (by omega)
  rw [if_neg (by decide)] at hst
  have hlt2 : ck (TL b n)[i + 1] < 512 := by
    obtain ⟨t1, s1, _, _, a3, _⟩ := h.adv (N := N) (X := X) hN (fun _ => by omega)
    obtain ⟨_, _, _, _, _, _, _, z, _⟩ := a3.1.now
    exact z
  rw [hk] at e5
  have hP : kP t 2 1 = some p := h.2.1.1
  have hp : (p = 12 ∨ p = 21) = True := eq_true h.2.1.2.1
  rcases h.nam (N := N) (X := X) hN with ⟨r, t1, s1, vs1, a1, a2, a3, a4, a5, a6⟩ | ⟨t1, s1, a1, a2, a3, a4, a5⟩
  · obtain ⟨t2, s2, b1, b2, b3, b4, b5⟩ := a4.bo (N := N) (X := X) (c := (1, 0, r, 0, Int32.ofNat (TL b n)[i].2.2.2.1, 0, 0)) (D' := D) (k := Int32.ofNat 1) (a := cv r) (v := Int32.ofNat (TL b n)[i].2.2.2.1) (x1 := Int32.ofNat 3) (x2 := Int32.ofNat r) (x3 := Int32.ofNat 0) (x4 := Int32.ofNat (TL b n)[i].2.2.2.1) rfl rfl (Or.inr (Or.inl (Nat.zero_le _))) rfl (by unfold okI; simp; exact a5) (by omega) (Or.inl (by unfold rlen xlen; simp))
    refine Or.inl ⟨t2, s2, 1, i + 1, [_], vs1, cl, ?_, by omega, by omega, fun f => ?_, b3, a6.tr b4⟩
    · unfold cf_190 cf_190_0 cf_190_7 cf_190_15
      simp (disch := omega) only [ev_S, ev_C, ↓reduceIte, Nat.reduceEqDiff, Nat.reduceLeDiff, Nat.reduceAdd, Nat.reduceMul, Nat.reduceSub, reduceCtorEq, l32_0, l32_1, l32_2, l32_3, l32_4, l32_5, l32_6, l32_7, l32_8, l32_9, l32_10, l32_11, l32_12, l32_13, l32_14, l32_15, l32_16, l32_17, l32_18, l32_19, l32_20, l32_21, l32_22, l32_23, l32_24, l32_25, l32_26, l32_27, l32_28, l32_29, l32_33, l32_40, l32_41, l32_44, l32_45, l32_59, l32_61, l32_91, l32_93, l32_123, l32_125, c_placeNow, c_kindNow, e5, e6]
      unfold cf_190_84 cf_190_91 cf_190_103 cf_190_112 cf_190_116 cf_190_176
      simp (disch := omega) only [ev_S, ev_C, ↓reduceIte, Nat.reduceEqDiff, Nat.reduceLeDiff, Nat.reduceAdd, Nat.reduceMul, Nat.reduceSub, reduceCtorEq, l32_0, l32_1, l32_2, l32_3, l32_4, l32_5, l32_6, l32_7, l32_8, l32_9, l32_10, l32_11, l32_12, l32_13, l32_14, l32_15, l32_16, l32_17, l32_18, l32_19, l32_20, l32_21, l32_22, l32_23, l32_24, l32_25, l32_26, l32_27, l32_28, l32_29, l32_33, l32_40, l32_41, l32_44, l32_45, l32_59, l32_61, l32_91, l32_93, l32_123, l32_125, nx, hnk, hP, hp, a1, b1]
    · rw [LL_0 h9, hst]
      unfold mf_286_199 mf_286_203 mf_286_212
      simp (disch := omega) only [ev_S, ev_P, ↓reduceIte, Nat.reduceEqDiff, Nat.reduceLeDiff, Nat.reduceAdd, Nat.reduceMul, Nat.reduceSub, reduceCtorEq, l32_0, l32_1, l32_2, l32_3, l32_4, l32_5, l32_6, l32_7, l32_8, l32_9, l32_10, l32_11, l32_12, l32_13, l32_14, l32_15, l32_16, l32_17, l32_18, l32_19, l32_20, l32_21, l32_22, l32_23, l32_24, l32_25, l32_26, l32_27, l32_28, l32_29, l32_33, l32_40, l32_41, l32_44, l32_45, l32_59, l32_61, l32_91, l32_93, l32_123, l32_125, a2, b2]
  · obtain ⟨x, y, v1, v2, v3, v4, v5, v6, v7⟩ := a3
    have hcr := h.2.2.1.keep (a5.1 12 (by omega)) (a5.1 28 (by omega)) (fun q _ => a5.2.2.1 q (fun z => z))
    have hrl := h.rle
    obtain ⟨s2, c1, c2, c3⟩ := r_order (N := N) (x1 := Int32.ofNat 3) (x2 := Int32.ofNat 0) (x3 := Int32.ofNat 0) (x4 := Int32.ofNat (TL b n)[i].2.2.2.1) hcr (by rw [RA_len]; omega)
    refine Or.inr ⟨t1, s2, 2, ?_, by omega, fun f => ?_, pF.post ⟨x, y, v1, v2, v3, v4, v5, v6, v7⟩ (c3.1 9 (by decide)) (c3.1 10 (by decide)), a4.post (fO.Q c3) (c2.oB (by rw [List.length_append, RA_len, List.length_singleton]; omega))⟩
    · unfold cf_190 cf_190_0 cf_190_7 cf_190_15
      simp (disch := omega) only [ev_S, ev_C, ↓reduceIte, Nat.reduceEqDiff, Nat.reduceLeDiff, Nat.reduceAdd, Nat.reduceMul, Nat.reduceSub, reduceCtorEq, l32_0, l32_1, l32_2, l32_3, l32_4, l32_5, l32_6, l32_7, l32_8, l32_9, l32_10, l32_11, l32_12, l32_13, l32_14, l32_15, l32_16, l32_17, l32_18, l32_19, l32_20, l32_21, l32_22, l32_23, l32_24, l32_25, l32_26, l32_27, l32_28, l32_29, l32_33, l32_40, l32_41, l32_44, l32_45, l32_59, l32_61, l32_91, l32_93, l32_123, l32_125, c_placeNow, c_kindNow, e5, e6]
      unfold cf_190_84 cf_190_91 cf_190_103
      simp (disch := omega) only [ev_S, ev_C, ↓reduceIte, Nat.reduceEqDiff, Nat.reduceLeDiff, Nat.reduceAdd, Nat.reduceMul, Nat.reduceSub, reduceCtorEq, l32_0, l32_1, l32_2, l32_3, l32_4, l32_5, l32_6, l32_7, l32_8, l32_9, l32_10, l32_11, l32_12, l32_13, l32_14, l32_15, l32_16, l32_17, l32_18, l32_19, l32_20, l32_21, l32_22, l32_23, l32_24, l32_25, l32_26, l32_27, l32_28, l32_29, l32_33, l32_40, l32_41, l32_44, l32_45, l32_59, l32_61, l32_91, l32_93, l32_123, l32_125, nx, hnk, hP, hp, a1]
      rfl
    · rw [show f + 2 = (f + 1) + 1 by omega, LL_0 h9, hst]
      unfold mf_286_199 mf_286_203 mf_286_212
      simp (disch := omega) only [ev_S, ev_P, ↓reduceIte, Nat.reduceEqDiff, Nat.reduceLeDiff, Nat.reduceAdd, Nat.reduceMul, Nat.reduceSub, reduceCtorEq, l32_0, l32_1, l32_2, l32_3, l32_4, l32_5, l32_6, l32_7, l32_8, l32_9, l32_10, l32_11, l32_12, l32_13, l32_14, l32_15, l32_16, l32_17, l32_18, l32_19, l32_20, l32_21, l32_22, l32_23, l32_24, l32_25, l32_26, l32_27, l32_28, l32_29, l32_33, l32_40, l32_41, l32_44, l32_45, l32_59, l32_61, l32_91, l32_93, l32_123, l32_125, a2, c1]
      exact LL_f (N := N) ((c3.1 9 (by decide)).trans v6) ⟨v1, v2⟩
end ATO
end
-- ### 91a.outside.lean.txt
section
/-! ===== the law's start: what stands outside (printed by program: gen91.py) ===== -/
theorem zy_L {a b : Cond} {A : Array Value} {s : State} (h : (Cond.and a b).before A s = true) : a.before A s = true := by
  rw [Cond.before_and, Bool.and_eq_true] at h
  exact h.1
theorem zy_R {a b : Cond} {A : Array Value} {s : State} (h : (Cond.and a b).before A s = true) : b.before A s = true := by
  rw [Cond.before_and, Bool.and_eq_true] at h
  exact h.2
def zy_nm : List String := ["FN", "IF", "ELSE", "WHILE", "FOR", "IN", "SAY", "RETURN", "RAISE", "TRY", "ON", "NEW_ROW", "IOTA", "NEW_PACK", "GRID", "ROWS", "BOX", "SIZE", "WIDTHS", "KIND", "SUM", "MAX", "MIN", "SCAN", "SORT", "GRADE", "BACK", "FLAT", "TURN", "GROUP", "JOIN", "TAKE", "DROP", "CUT", "PICK", "FIND", "PAD", "OUTER", "SAME", "EACH", "FOLD"]
def zy_code : List Int64 := [206, 294, 176741, 24388997, 6642, 302, 19513, 609900110, 18916965, 21081, 494, 18935, 310913, 525419, 248100, 605939, 2552, 632645, 781340947, 370116, 20141, 13368, 13614, 625710, 638548, 7931013, 66667, 208948, 677454, 7945904, 343342, 656741, 150000, 3764, 533611, 206276, 16420, 16437426, 624037, 164968, 212356]
def zy_least : List Int32 := [0, 0, 0, 0, 0, 0, 0, 0, 0, 0, 0, 1, 1, 1, 2, 1, 0, 1, 1, 1, 1, 1, 1, 1, 1, 1, 1, 1, 1, 1, 2, 2, 2, 2, 2, 2, 2, 2, 2, 2, 3]
def zy_most : List Int32 := [0, 0, 0, 0, 0, 0, 0, 0, 0, 0, 0, 1, 1, 1, 2, 1, 6, 1, 1, 1, 1, 1, 1, 1, 1, 1, 1, 1, 1, 1, 2, 2, 2, 2, 2, 2, 2, 2, 2, 2, 3]
def zy_map : List Int32 := [0, 1, 0, 2, 3, 0, 4, 5, 6, 7, 0, 8, 9, 10, 25, 11, 0, 12, 13, 14, 15, 16, 17, 18, 19, 20, 21, 22, 23, 24, 26, 27, 28, 29, 30, 31, 32, 33, 34, 0, 0]
def zy_byt : Nat → List Int32 := fun i => if i = 0 then [123, 125, 40, 41, 91, 93, 59, 44, 61, 60, 62, 43, 45, 42, 47, 37, 38, 124, 33] else if i = 1 then [61, 33, 60, 62] else [97, 32, 102, 97, 117, 108, 116]
/-- the cells outside -/
def zt_X (L : Nat) (xs : Nat → Int32) : Nat → Option zz_C := fun j => if j = 0 then some (.inl (0, L, .inl xs))
  else if j < 42 then some (.inr (20, [.long (zy_code.getD (j - 1) 0), .int (zy_least.getD (j - 1) 0), .int (zy_most.getD (j - 1) 0), .int (Int32.ofNat (j - 1))]))
  else if j = 42 then some (.inl (6, 41, .inr (.inr (.inr (.inr fun i => some (zz_out + (i + 1)))))))
  else if j = 43 then some (.inl (0, 41, .inl fun i => zy_map.getD i 0))
  else if j < 47 then some (.inr (21, [.ref (zz_out + (j + 3)), .int 0]))
  else if j < 50 then some (.inl (2, (zy_byt (j - 47)).length, .inl fun i => (zy_byt (j - 47)).getD i 0))
  else none
set_option maxRecDepth 100000 in
theorem zy_ex {A : Array Value} {s : State} (h : narrow_1.before A s = true) : ∀ i, i < 41 → (Cond.exactly (.static "TallySlate$Word" (zy_nm.getD i "") "LTallySlate$Word;") "TallySlate$Word").before A s = true := by
  intro i hi
  have hv : i = 0 ∨ i = 1 ∨ i = 2 ∨ i = 3 ∨ i = 4 ∨ i = 5 ∨ i = 6 ∨ i = 7 ∨ i = 8 ∨ i = 9 ∨ i = 10 ∨ i = 11 ∨ i = 12 ∨ i = 13 ∨ i = 14 ∨ i = 15 ∨ i = 16 ∨ i = 17 ∨ i = 18 ∨ i = 19 ∨ i = 20 ∨ i = 21 ∨ i = 22 ∨ i = 23 ∨ i = 24 ∨ i = 25 ∨ i = 26 ∨ i = 27 ∨ i = 28 ∨ i = 29 ∨ i = 30 ∨ i = 31 ∨ i = 32 ∨ i = 33 ∨ i = 34 ∨ i = 35 ∨ i = 36 ∨ i = 37 ∨ i = 38 ∨ i = 39 ∨ i = 40 := by omega
  rcases hv with rfl | rfl | rfl | rfl | rfl | rfl | rfl | rfl | rfl | rfl | rfl | rfl | rfl | rfl | rfl | rfl | rfl | rfl | rfl | rfl | rfl | rfl | rfl | rfl | rfl | rfl | rfl | rfl | rfl | rfl | rfl | rfl | rfl | rfl | rfl | rfl | rfl | rfl | rfl | rfl | rfl
  · exact (zy_L (zy_R (zy_R (zy_L (zy_L (zy_R (zy_L (zy_L h))))))))
  · exact (zy_L (zy_R (zy_R (zy_L (zy_R (zy_L (zy_R (zy_R (zy_L h)))))))))
  · exact (zy_R (zy_R (zy_L (zy_R (zy_L (zy_R (zy_L (zy_R (zy_L h)))))))))
  · exact (zy_L (zy_R (zy_R (zy_R (zy_L (zy_R (zy_R (zy_L h))))))))
  · exact (zy_L (zy_R (zy_L (zy_L (zy_R (zy_R (zy_R (zy_L h))))))))
  · exact (zy_L (zy_R (zy_L (zy_L (zy_R (zy_R (zy_L (zy_R (zy_L h)))))))))
  · exact (zy_R (zy_R (zy_L (zy_R (zy_L (zy_R (zy_R (zy_R (zy_L h)))))))))
  · exact (zy_L (zy_R (zy_L (zy_L (zy_R (zy_R (zy_R (zy_R (zy_L h)))))))))
  · exact (zy_L (zy_L (zy_R (zy_R (zy_R (zy_R (zy_R (zy_L h))))))))
  · exact (zy_R (zy_R (zy_R (zy_R (zy_R (zy_R (zy_R (zy_R (zy_L h)))))))))
  · exact (zy_L (zy_L (zy_R (zy_R (zy_R (zy_L (zy_R (zy_L h))))))))
  · exact (zy_R (zy_R (zy_R (zy_L (zy_L (zy_L (zy_L (zy_L (zy_R h)))))))))
  · exact (zy_L (zy_R (zy_R (zy_R (zy_L (zy_L (zy_L (zy_L (zy_R h)))))))))
  · exact (zy_L (zy_R (zy_R (zy_L (zy_R (zy_L (zy_L (zy_L (zy_R h)))))))))
  · exact (zy_L (zy_R (zy_R (zy_R (zy_L (zy_L (zy_L (zy_R h))))))))
  · exact (zy_L (zy_R (zy_L (zy_L (zy_R (zy_L (zy_L (zy_R h))))))))
  · exact (zy_L (zy_R (zy_R (zy_L (zy_L (zy_R (zy_R (zy_L (zy_L h)))))))))
  · exact (zy_R (zy_R (zy_L (zy_R (zy_L (zy_R (zy_L (zy_L (zy_R h)))))))))
  · exact (zy_L (zy_R (zy_L (zy_L (zy_R (zy_R (zy_L (zy_L (zy_R h)))))))))
  · exact (zy_L (zy_L (zy_R (zy_R (zy_R (zy_L (zy_L (zy_R h))))))))
  · exact (zy_R (zy_R (zy_R (zy_R (zy_R (zy_R (zy_L (zy_R (zy_L h)))))))))
  · exact (zy_R (zy_R (zy_R (zy_L (zy_L (zy_L (zy_R (zy_R (zy_L h)))))))))
  · exact (zy_R (zy_R (zy_R (zy_R (zy_R (zy_R (zy_L (zy_L (zy_R h)))))))))
  · exact (zy_R (zy_R (zy_R (zy_L (zy_L (zy_L (zy_R (zy_L (zy_R h)))))))))
  · exact (zy_L (zy_R (zy_R (zy_R (zy_L (zy_L (zy_R (zy_R (zy_L h)))))))))
  · exact (zy_L (zy_R (zy_R (zy_R (zy_L (zy_L (zy_R (zy_L (zy_R h)))))))))
  · exact (zy_L (zy_R (zy_R (zy_L (zy_R (zy_L (zy_R (zy_L (zy_R h)))))))))
  · exact (zy_L (zy_R (zy_R (zy_R (zy_L (zy_R (zy_L (zy_R h))))))))
  · exact (zy_L (zy_R (zy_L (zy_L (zy_R (zy_R (zy_L (zy_R h))))))))
  · exact (zy_R (zy_R (zy_L (zy_R (zy_L (zy_R (zy_R (zy_L (zy_R h)))))))))
  · exact (zy_L (zy_R (zy_L (zy_L (zy_R (zy_R (zy_R (zy_L (zy_R h)))))))))
  · exact (zy_L (zy_L (zy_R (zy_R (zy_R (zy_R (zy_L (zy_R h))))))))
  · exact (zy_R (zy_R (zy_R (zy_R (zy_R (zy_R (zy_R (zy_L (zy_R h)))))))))
  · exact (zy_R (zy_R (zy_R (zy_L (zy_L (zy_L (zy_L (zy_R (zy_R h)))))))))
  · exact (zy_L (zy_R (zy_R (zy_R (zy_L (zy_L (zy_L (zy_R (zy_R h)))))))))
  · exact (zy_L (zy_R (zy_R (zy_L (zy_R (zy_L (zy_L (zy_R (zy_R h)))))))))
  · exact (zy_L (zy_R (zy_R (zy_R (zy_L (zy_L (zy_R (zy_R h))))))))
  · exact (zy_L (zy_R (zy_L (zy_L (zy_R (zy_L (zy_R (zy_R h))))))))
  · exact (zy_R (zy_R (zy_L (zy_R (zy_L (zy_R (zy_L (zy_R (zy_R h)))))))))
  · exact (zy_R (zy_R (zy_R (zy_L (zy_R (zy_L (zy_R (zy_L (zy_L h)))))))))
  · exact (zy_L (zy_R (zy_R (zy_R (zy_R (zy_L (zy_R (zy_L (zy_L h)))))))))
set_option maxRecDepth 100000 in
theorem zy_co {A : Array Value} {s : State} (h : narrow_1.before A s = true) : ∀ i, i < 41 → (Cond.eq (.field (.static "TallySlate$Word" (zy_nm.getD i "") "LTallySlate$Word;") "TallySlate$Word" "code" "J") (.long (zy_code.getD i 0))).before A s = true := by
  intro i hi
  have hv : i = 0 ∨ i = 1 ∨ i = 2 ∨ i = 3 ∨ i = 4 ∨ i = 5 ∨ i = 6 ∨ i = 7 ∨ i = 8 ∨ i = 9 ∨ i = 10 ∨ i = 11 ∨ i = 12 ∨ i = 13 ∨ i = 14 ∨ i = 15 ∨ i = 16 ∨ i = 17 ∨ i = 18 ∨ i = 19 ∨ i = 20 ∨ i = 21 ∨ i = 22 ∨ i = 23 ∨ i = 24 ∨ i = 25 ∨ i = 26 ∨ i = 27 ∨ i = 28 ∨ i = 29 ∨ i = 30 ∨ i = 31 ∨ i = 32 ∨ i = 33 ∨ i = 34 ∨ i = 35 ∨ i = 36 ∨ i = 37 ∨ i = 38 ∨ i = 39 ∨ i = 40 := by omega
  rcases hv with rfl | rfl | rfl | rfl | rfl | rfl | rfl | rfl | rfl | rfl | rfl | rfl | rfl | rfl | rfl | rfl | rfl | rfl | rfl | rfl | rfl | rfl | rfl | rfl | rfl | rfl | rfl | rfl | rfl | rfl | rfl | rfl | rfl | rfl | rfl | rfl | rfl | rfl | rfl | rfl | rfl
  · exact (zy_R (zy_R (zy_R (zy_R (zy_L (zy_L (zy_R (zy_L (zy_L h)))))))))
  · exact (zy_L (zy_L (zy_R (zy_R (zy_L (zy_R (zy_R (zy_L h))))))))
  · exact (zy_L (zy_R (zy_R (zy_R (zy_L (zy_R (zy_L (zy_R (zy_L h)))))))))
  · exact (zy_R (zy_R (zy_R (zy_R (zy_R (zy_L (zy_R (zy_R (zy_L h)))))))))
  · exact (zy_R (zy_R (zy_R (zy_L (zy_L (zy_R (zy_R (zy_R (zy_L h)))))))))
  · exact (zy_L (zy_R (zy_L (zy_R (zy_R (zy_L (zy_R (zy_L h))))))))
  · exact (zy_L (zy_R (zy_R (zy_R (zy_L (zy_R (zy_R (zy_R (zy_L h)))))))))
  · exact (zy_L (zy_R (zy_L (zy_R (zy_R (zy_R (zy_R (zy_L h))))))))
  · exact (zy_R (zy_R (zy_L (zy_R (zy_R (zy_R (zy_R (zy_R (zy_L h)))))))))
  · exact (zy_R (zy_L (zy_L (zy_L (zy_L (zy_L (zy_L (zy_R h))))))))
  · exact (zy_R (zy_R (zy_L (zy_R (zy_R (zy_R (zy_L (zy_R (zy_L h)))))))))
  · exact (zy_L (zy_R (zy_L (zy_R (zy_L (zy_L (zy_L (zy_L (zy_R h)))))))))
  · exact (zy_L (zy_L (zy_L (zy_R (zy_L (zy_L (zy_L (zy_R h))))))))
  · exact (zy_L (zy_L (zy_R (zy_R (zy_L (zy_L (zy_L (zy_R h))))))))
  · exact (zy_R (zy_R (zy_R (zy_R (zy_R (zy_L (zy_L (zy_L (zy_R h)))))))))
  · exact (zy_R (zy_R (zy_R (zy_L (zy_L (zy_R (zy_L (zy_L (zy_R h)))))))))
  · exact (zy_L (zy_L (zy_R (zy_L (zy_R (zy_R (zy_L (zy_L h))))))))
  · exact (zy_L (zy_R (zy_R (zy_R (zy_L (zy_R (zy_L (zy_L (zy_R h)))))))))
  · exact (zy_L (zy_R (zy_L (zy_R (zy_R (zy_L (zy_L (zy_R h))))))))
  · exact (zy_R (zy_R (zy_L (zy_R (zy_R (zy_R (zy_L (zy_L (zy_R h)))))))))
  · exact (zy_R (zy_L (zy_L (zy_L (zy_L (zy_R (zy_R (zy_L h))))))))
  · exact (zy_L (zy_R (zy_L (zy_R (zy_L (zy_L (zy_R (zy_R (zy_L h)))))))))
  · exact (zy_R (zy_L (zy_L (zy_L (zy_L (zy_R (zy_L (zy_R h))))))))
  · exact (zy_L (zy_R (zy_L (zy_R (zy_L (zy_L (zy_R (zy_L (zy_R h)))))))))
  · exact (zy_L (zy_L (zy_L (zy_R (zy_L (zy_R (zy_R (zy_L h))))))))
  · exact (zy_L (zy_L (zy_L (zy_R (zy_L (zy_R (zy_L (zy_R h))))))))
  · exact (zy_L (zy_L (zy_R (zy_R (zy_L (zy_R (zy_L (zy_R h))))))))
  · exact (zy_R (zy_R (zy_R (zy_R (zy_R (zy_L (zy_R (zy_L (zy_R h)))))))))
  · exact (zy_R (zy_R (zy_R (zy_L (zy_L (zy_R (zy_R (zy_L (zy_R h)))))))))
  · exact (zy_L (zy_R (zy_R (zy_R (zy_L (zy_R (zy_R (zy_L (zy_R h)))))))))
  · exact (zy_L (zy_R (zy_L (zy_R (zy_R (zy_R (zy_L (zy_R h))))))))
  · exact (zy_R (zy_R (zy_L (zy_R (zy_R (zy_R (zy_R (zy_L (zy_R h)))))))))
  · exact (zy_R (zy_L (zy_L (zy_L (zy_L (zy_L (zy_R (zy_R h))))))))
  · exact (zy_L (zy_R (zy_L (zy_R (zy_L (zy_L (zy_L (zy_R (zy_R h)))))))))
  · exact (zy_L (zy_L (zy_L (zy_R (zy_L (zy_L (zy_R (zy_R h))))))))
  · exact (zy_L (zy_L (zy_R (zy_R (zy_L (zy_L (zy_R (zy_R h))))))))
  · exact (zy_R (zy_R (zy_R (zy_R (zy_R (zy_L (zy_L (zy_R (zy_R h)))))))))
  · exact (zy_R (zy_R (zy_R (zy_L (zy_L (zy_R (zy_L (zy_R (zy_R h)))))))))
  · exact (zy_L (zy_R (zy_R (zy_R (zy_L (zy_R (zy_L (zy_R (zy_R h)))))))))
  · exact (zy_L (zy_R (zy_L (zy_R (zy_R (zy_L (zy_R (zy_L (zy_L h)))))))))
  · exact (zy_L (zy_L (zy_L (zy_L (zy_R (zy_R (zy_L (zy_L h))))))))
set_option maxRecDepth 100000 in
theorem zy_le {A : Array Value} {s : State} (h : narrow_1.before A s = true) : ∀ i, i < 41 → (Cond.eq (.field (.static "TallySlate$Word" (zy_nm.getD i "") "LTallySlate$Word;") "TallySlate$Word" "least" "I") (.int (zy_least.getD i 0))).before A s = true := by
  intro i hi
  have hv : i = 0 ∨ i = 1 ∨ i = 2 ∨ i = 3 ∨ i = 4 ∨ i = 5 ∨ i = 6 ∨ i = 7 ∨ i = 8 ∨ i = 9 ∨ i = 10 ∨ i = 11 ∨ i = 12 ∨ i = 13 ∨ i = 14 ∨ i = 15 ∨ i = 16 ∨ i = 17 ∨ i = 18 ∨ i = 19 ∨ i = 20 ∨ i = 21 ∨ i = 22 ∨ i = 23 ∨ i = 24 ∨ i = 25 ∨ i = 26 ∨ i = 27 ∨ i = 28 ∨ i = 29 ∨ i = 30 ∨ i = 31 ∨ i = 32 ∨ i = 33 ∨ i = 34 ∨ i = 35 ∨ i = 36 ∨ i = 37 ∨ i = 38 ∨ i = 39 ∨ i = 40 := by omega
  rcases hv with rfl | rfl | rfl | rfl | rfl | rfl | rfl | rfl | rfl | rfl | rfl | rfl | rfl | rfl | rfl | rfl | rfl | rfl | rfl | rfl | rfl | rfl | rfl | rfl | rfl | rfl | rfl | rfl | rfl | rfl | rfl | rfl | rfl | rfl | rfl | rfl | rfl | rfl | rfl | rfl | rfl
  · exact (zy_L (zy_L (zy_L (zy_R (zy_L (zy_R (zy_L (zy_L h))))))))
  · exact (zy_L (zy_R (zy_L (zy_R (zy_R (zy_L (zy_R (zy_R (zy_L h)))))))))
  · exact (zy_R (zy_R (zy_R (zy_R (zy_L (zy_R (zy_L (zy_R (zy_L h)))))))))
  · exact (zy_L (zy_L (zy_L (zy_L (zy_R (zy_R (zy_R (zy_L h))))))))
  · exact (zy_L (zy_L (zy_R (zy_L (zy_R (zy_R (zy_R (zy_L h))))))))
  · exact (zy_L (zy_R (zy_R (zy_L (zy_R (zy_R (zy_L (zy_R (zy_L h)))))))))
  · exact (zy_R (zy_R (zy_R (zy_R (zy_L (zy_R (zy_R (zy_R (zy_L h)))))))))
  · exact (zy_L (zy_R (zy_R (zy_L (zy_R (zy_R (zy_R (zy_R (zy_L h)))))))))
  · exact (zy_L (zy_R (zy_R (zy_R (zy_R (zy_R (zy_R (zy_L h))))))))
  · exact (zy_L (zy_R (zy_L (zy_L (zy_L (zy_L (zy_L (zy_R h))))))))
  · exact (zy_L (zy_R (zy_R (zy_R (zy_R (zy_L (zy_R (zy_L h))))))))
  · exact (zy_R (zy_R (zy_L (zy_R (zy_L (zy_L (zy_L (zy_L (zy_R h)))))))))
  · exact (zy_R (zy_L (zy_L (zy_R (zy_L (zy_L (zy_L (zy_R h))))))))
  · exact (zy_L (zy_R (zy_L (zy_R (zy_R (zy_L (zy_L (zy_L (zy_R h)))))))))
  · exact (zy_L (zy_L (zy_L (zy_L (zy_R (zy_L (zy_L (zy_R h))))))))
  · exact (zy_L (zy_L (zy_R (zy_L (zy_R (zy_L (zy_L (zy_R h))))))))
  · exact (zy_L (zy_R (zy_L (zy_R (zy_L (zy_R (zy_R (zy_L (zy_L h)))))))))
  · exact (zy_R (zy_R (zy_R (zy_R (zy_L (zy_R (zy_L (zy_L (zy_R h)))))))))
  · exact (zy_L (zy_R (zy_R (zy_L (zy_R (zy_R (zy_L (zy_L (zy_R h)))))))))
  · exact (zy_L (zy_R (zy_R (zy_R (zy_R (zy_L (zy_L (zy_R h))))))))
  · exact (zy_L (zy_R (zy_L (zy_L (zy_L (zy_R (zy_R (zy_L h))))))))
  · exact (zy_R (zy_R (zy_L (zy_R (zy_L (zy_L (zy_R (zy_R (zy_L h)))))))))
  · exact (zy_L (zy_R (zy_L (zy_L (zy_L (zy_R (zy_L (zy_R h))))))))
  · exact (zy_R (zy_R (zy_L (zy_R (zy_L (zy_L (zy_R (zy_L (zy_R h)))))))))
  · exact (zy_R (zy_L (zy_L (zy_R (zy_L (zy_R (zy_R (zy_L h))))))))
  · exact (zy_R (zy_L (zy_L (zy_R (zy_L (zy_R (zy_L (zy_R h))))))))
  · exact (zy_L (zy_R (zy_L (zy_R (zy_R (zy_L (zy_R (zy_L (zy_R h)))))))))
  · exact (zy_L (zy_L (zy_L (zy_L (zy_R (zy_R (zy_L (zy_R h))))))))
  · exact (zy_L (zy_L (zy_R (zy_L (zy_R (zy_R (zy_L (zy_R h))))))))
  · exact (zy_R (zy_R (zy_R (zy_R (zy_L (zy_R (zy_R (zy_L (zy_R h)))))))))
  · exact (zy_L (zy_R (zy_R (zy_L (zy_R (zy_R (zy_R (zy_L (zy_R h)))))))))
  · exact (zy_L (zy_R (zy_R (zy_R (zy_R (zy_R (zy_L (zy_R h))))))))
  · exact (zy_L (zy_R (zy_L (zy_L (zy_L (zy_L (zy_R (zy_R h))))))))
  · exact (zy_R (zy_R (zy_L (zy_R (zy_L (zy_L (zy_L (zy_R (zy_R h)))))))))
  · exact (zy_R (zy_L (zy_L (zy_R (zy_L (zy_L (zy_R (zy_R h))))))))
  · exact (zy_L (zy_R (zy_L (zy_R (zy_R (zy_L (zy_L (zy_R (zy_R h)))))))))
  · exact (zy_L (zy_L (zy_L (zy_L (zy_R (zy_L (zy_R (zy_R h))))))))
  · exact (zy_L (zy_L (zy_R (zy_L (zy_R (zy_L (zy_R (zy_R h))))))))
  · exact (zy_R (zy_R (zy_R (zy_R (zy_L (zy_R (zy_L (zy_R (zy_R h)))))))))
  · exact (zy_R (zy_R (zy_L (zy_R (zy_R (zy_L (zy_R (zy_L (zy_L h)))))))))
  · exact (zy_R (zy_L (zy_L (zy_L (zy_R (zy_R (zy_L (zy_L h))))))))
set_option maxRecDepth 100000 in
theorem zy_mo {A : Array Value} {s : State} (h : narrow_1.before A s = true) : ∀ i, i < 41 → (Cond.eq (.field (.static "TallySlate$Word" (zy_nm.getD i "") "LTallySlate$Word;") "TallySlate$Word" "most" "I") (.int (zy_most.getD i 0))).before A s = true := by
  intro i hi
  have hv : i = 0 ∨ i = 1 ∨ i = 2 ∨ i = 3 ∨ i = 4 ∨ i = 5 ∨ i = 6 ∨ i = 7 ∨ i = 8 ∨ i = 9 ∨ i = 10 ∨ i = 11 ∨ i = 12 ∨ i = 13 ∨ i = 14 ∨ i = 15 ∨ i = 16 ∨ i = 17 ∨ i = 18 ∨ i = 19 ∨ i = 20 ∨ i = 21 ∨ i = 22 ∨ i = 23 ∨ i = 24 ∨ i = 25 ∨ i = 26 ∨ i = 27 ∨ i = 28 ∨ i = 29 ∨ i = 30 ∨ i = 31 ∨ i = 32 ∨ i = 33 ∨ i = 34 ∨ i = 35 ∨ i = 36 ∨ i = 37 ∨ i = 38 ∨ i = 39 ∨ i = 40 := by omega
  rcases hv with rfl | rfl | rfl | rfl | rfl | rfl | rfl | rfl | rfl | rfl | rfl | rfl | rfl | rfl | rfl | rfl | rfl | rfl | rfl | rfl | rfl | rfl | rfl | rfl | rfl | rfl | rfl | rfl | rfl | rfl | rfl | rfl | rfl | rfl | rfl | rfl | rfl | rfl | rfl | rfl | rfl
  · exact (zy_R (zy_L (zy_L (zy_R (zy_L (zy_R (zy_L (zy_L h))))))))
  · exact (zy_R (zy_R (zy_L (zy_R (zy_R (zy_L (zy_R (zy_R (zy_L h)))))))))
  · exact (zy_L (zy_L (zy_L (zy_R (zy_R (zy_L (zy_R (zy_L h))))))))
  · exact (zy_R (zy_L (zy_L (zy_L (zy_R (zy_R (zy_R (zy_L h))))))))
  · exact (zy_L (zy_R (zy_L (zy_R (zy_L (zy_R (zy_R (zy_R (zy_L h)))))))))
  · exact (zy_R (zy_R (zy_R (zy_L (zy_R (zy_R (zy_L (zy_R (zy_L h)))))))))
  · exact (zy_L (zy_L (zy_L (zy_R (zy_R (zy_R (zy_R (zy_L h))))))))
  · exact (zy_R (zy_R (zy_R (zy_L (zy_R (zy_R (zy_R (zy_R (zy_L h)))))))))
  · exact (zy_L (zy_R (zy_R (zy_R (zy_R (zy_R (zy_R (zy_R (zy_L h)))))))))
  · exact (zy_L (zy_R (zy_R (zy_L (zy_L (zy_L (zy_L (zy_L (zy_R h)))))))))
  · exact (zy_L (zy_R (zy_R (zy_R (zy_R (zy_R (zy_L (zy_R (zy_L h)))))))))
  · exact (zy_L (zy_R (zy_R (zy_L (zy_L (zy_L (zy_L (zy_R h))))))))
  · exact (zy_L (zy_R (zy_L (zy_R (zy_L (zy_L (zy_L (zy_R h))))))))
  · exact (zy_R (zy_R (zy_L (zy_R (zy_R (zy_L (zy_L (zy_L (zy_R h)))))))))
  · exact (zy_R (zy_L (zy_L (zy_L (zy_R (zy_L (zy_L (zy_R h))))))))
  · exact (zy_L (zy_R (zy_L (zy_R (zy_L (zy_R (zy_L (zy_L (zy_R h)))))))))
  · exact (zy_R (zy_R (zy_L (zy_R (zy_L (zy_R (zy_R (zy_L (zy_L h)))))))))
  · exact (zy_L (zy_L (zy_L (zy_R (zy_R (zy_L (zy_L (zy_R h))))))))
  · exact (zy_R (zy_R (zy_R (zy_L (zy_R (zy_R (zy_L (zy_L (zy_R h)))))))))
  · exact (zy_L (zy_R (zy_R (zy_R (zy_R (zy_R (zy_L (zy_L (zy_R h)))))))))
  · exact (zy_L (zy_R (zy_R (zy_L (zy_L (zy_L (zy_R (zy_R (zy_L h)))))))))
  · exact (zy_L (zy_R (zy_R (zy_L (zy_L (zy_R (zy_R (zy_L h))))))))
  · exact (zy_L (zy_R (zy_R (zy_L (zy_L (zy_L (zy_R (zy_L (zy_R h)))))))))
  · exact (zy_L (zy_R (zy_R (zy_L (zy_L (zy_R (zy_L (zy_R h))))))))
  · exact (zy_L (zy_R (zy_L (zy_R (zy_L (zy_R (zy_R (zy_L h))))))))
  · exact (zy_L (zy_R (zy_L (zy_R (zy_L (zy_R (zy_L (zy_R h))))))))
  · exact (zy_R (zy_R (zy_L (zy_R (zy_R (zy_L (zy_R (zy_L (zy_R h)))))))))
  · exact (zy_R (zy_L (zy_L (zy_L (zy_R (zy_R (zy_L (zy_R h))))))))
  · exact (zy_L (zy_R (zy_L (zy_R (zy_L (zy_R (zy_R (zy_L (zy_R h)))))))))
  · exact (zy_L (zy_L (zy_L (zy_R (zy_R (zy_R (zy_L (zy_R h))))))))
  · exact (zy_R (zy_R (zy_R (zy_L (zy_R (zy_R (zy_R (zy_L (zy_R h)))))))))
  · exact (zy_L (zy_R (zy_R (zy_R (zy_R (zy_R (zy_R (zy_L (zy_R h)))))))))
  · exact (zy_L (zy_R (zy_R (zy_L (zy_L (zy_L (zy_L (zy_R (zy_R h)))))))))
  · exact (zy_L (zy_R (zy_R (zy_L (zy_L (zy_L (zy_R (zy_R h))))))))
  · exact (zy_L (zy_R (zy_L (zy_R (zy_L (zy_L (zy_R (zy_R h))))))))
  · exact (zy_R (zy_R (zy_L (zy_R (zy_R (zy_L (zy_L (zy_R (zy_R h)))))))))
  · exact (zy_R (zy_L (zy_L (zy_L (zy_R (zy_L (zy_R (zy_R h))))))))
  · exact (zy_L (zy_R (zy_L (zy_R (zy_L (zy_R (zy_L (zy_R (zy_R h)))))))))
  · exact (zy_L (zy_L (zy_L (zy_R (zy_R (zy_L (zy_R (zy_R h))))))))
  · exact (zy_L (zy_R (zy_R (zy_R (zy_L (zy_R (zy_L (zy_L h))))))))
  · exact (zy_L (zy_R (zy_L (zy_L (zy_R (zy_R (zy_L (zy_L h))))))))
set_option maxRecDepth 100000 in
theorem zy_or {A : Array Value} {s : State} (h : narrow_1.before A s = true) : ∀ i, i < 41 → (Cond.eq (.field (.static "TallySlate$Word" (zy_nm.getD i "") "LTallySlate$Word;") "java/lang/Enum" "ordinal" "I") (.int (Int32.ofNat i))).before A s = true := by
  intro i hi
  have hv : i = 0 ∨ i = 1 ∨ i = 2 ∨ i = 3 ∨ i = 4 ∨ i = 5 ∨ i = 6 ∨ i = 7 ∨ i = 8 ∨ i = 9 ∨ i = 10 ∨ i = 11 ∨ i = 12 ∨ i = 13 ∨ i = 14 ∨ i = 15 ∨ i = 16 ∨ i = 17 ∨ i = 18 ∨ i = 19 ∨ i = 20 ∨ i = 21 ∨ i = 22 ∨ i = 23 ∨ i = 24 ∨ i = 25 ∨ i = 26 ∨ i = 27 ∨ i = 28 ∨ i = 29 ∨ i = 30 ∨ i = 31 ∨ i = 32 ∨ i = 33 ∨ i = 34 ∨ i = 35 ∨ i = 36 ∨ i = 37 ∨ i = 38 ∨ i = 39 ∨ i = 40 := by omega
  rcases hv with rfl | rfl | rfl | rfl | rfl | rfl | rfl | rfl | rfl | rfl | rfl | rfl | rfl | rfl | rfl | rfl | rfl | rfl | rfl | rfl | rfl | rfl | rfl | rfl | rfl | rfl | rfl | rfl | rfl | rfl | rfl | rfl | rfl | rfl | rfl | rfl | rfl | rfl | rfl | rfl | rfl
  · exact (zy_L (zy_R (zy_R (zy_R (zy_L (zy_L (zy_R (zy_L (zy_L h)))))))))
  · exact (zy_R (zy_R (zy_R (zy_L (zy_R (zy_L (zy_R (zy_R (zy_L h)))))))))
  · exact (zy_L (zy_R (zy_R (zy_L (zy_R (zy_L (zy_R (zy_L h))))))))
  · exact (zy_L (zy_R (zy_R (zy_R (zy_R (zy_L (zy_R (zy_R (zy_L h)))))))))
  · exact (zy_L (zy_R (zy_R (zy_L (zy_L (zy_R (zy_R (zy_R (zy_L h)))))))))
  · exact (zy_R (zy_R (zy_L (zy_L (zy_R (zy_R (zy_L (zy_R (zy_L h)))))))))
  · exact (zy_L (zy_R (zy_R (zy_L (zy_R (zy_R (zy_R (zy_L h))))))))
  · exact (zy_R (zy_R (zy_L (zy_L (zy_R (zy_R (zy_R (zy_R (zy_L h)))))))))
  · exact (zy_L (zy_R (zy_L (zy_R (zy_R (zy_R (zy_R (zy_R (zy_L h)))))))))
  · exact (zy_L (zy_L (zy_L (zy_L (zy_L (zy_L (zy_L (zy_R h))))))))
  · exact (zy_L (zy_R (zy_L (zy_R (zy_R (zy_R (zy_L (zy_R (zy_L h)))))))))
  · exact (zy_L (zy_L (zy_R (zy_L (zy_L (zy_L (zy_L (zy_R h))))))))
  · exact (zy_R (zy_R (zy_R (zy_R (zy_L (zy_L (zy_L (zy_L (zy_R h)))))))))
  · exact (zy_R (zy_R (zy_R (zy_L (zy_R (zy_L (zy_L (zy_L (zy_R h)))))))))
  · exact (zy_L (zy_R (zy_R (zy_R (zy_R (zy_L (zy_L (zy_L (zy_R h)))))))))
  · exact (zy_L (zy_R (zy_R (zy_L (zy_L (zy_R (zy_L (zy_L (zy_R h)))))))))
  · exact (zy_R (zy_R (zy_R (zy_L (zy_L (zy_R (zy_R (zy_L (zy_L h)))))))))
  · exact (zy_L (zy_R (zy_R (zy_L (zy_R (zy_L (zy_L (zy_R h))))))))
  · exact (zy_R (zy_R (zy_L (zy_L (zy_R (zy_R (zy_L (zy_L (zy_R h)))))))))
  · exact (zy_L (zy_R (zy_L (zy_R (zy_R (zy_R (zy_L (zy_L (zy_R h)))))))))
  · exact (zy_L (zy_L (zy_L (zy_L (zy_L (zy_R (zy_R (zy_L h))))))))
  · exact (zy_L (zy_L (zy_R (zy_L (zy_L (zy_R (zy_R (zy_L h))))))))
  · exact (zy_L (zy_L (zy_L (zy_L (zy_L (zy_R (zy_L (zy_R h))))))))
  · exact (zy_L (zy_L (zy_R (zy_L (zy_L (zy_R (zy_L (zy_R h))))))))
  · exact (zy_R (zy_R (zy_R (zy_R (zy_L (zy_L (zy_R (zy_R (zy_L h)))))))))
  · exact (zy_R (zy_R (zy_R (zy_R (zy_L (zy_L (zy_R (zy_L (zy_R h)))))))))
  · exact (zy_R (zy_R (zy_R (zy_L (zy_R (zy_L (zy_R (zy_L (zy_R h)))))))))
  · exact (zy_L (zy_R (zy_R (zy_R (zy_R (zy_L (zy_R (zy_L (zy_R h)))))))))
  · exact (zy_L (zy_R (zy_R (zy_L (zy_L (zy_R (zy_R (zy_L (zy_R h)))))))))
  · exact (zy_L (zy_R (zy_R (zy_L (zy_R (zy_R (zy_L (zy_R h))))))))
  · exact (zy_R (zy_R (zy_L (zy_L (zy_R (zy_R (zy_R (zy_L (zy_R h)))))))))
  · exact (zy_L (zy_R (zy_L (zy_R (zy_R (zy_R (zy_R (zy_L (zy_R h)))))))))
  · exact (zy_L (zy_L (zy_L (zy_L (zy_L (zy_L (zy_R (zy_R h))))))))
  · exact (zy_L (zy_L (zy_R (zy_L (zy_L (zy_L (zy_R (zy_R h))))))))
  · exact (zy_R (zy_R (zy_R (zy_R (zy_L (zy_L (zy_L (zy_R (zy_R h)))))))))
  · exact (zy_R (zy_R (zy_R (zy_L (zy_R (zy_L (zy_L (zy_R (zy_R h)))))))))
  · exact (zy_L (zy_R (zy_R (zy_R (zy_R (zy_L (zy_L (zy_R (zy_R h)))))))))
  · exact (zy_L (zy_R (zy_R (zy_L (zy_L (zy_R (zy_L (zy_R (zy_R h)))))))))
  · exact (zy_L (zy_R (zy_R (zy_L (zy_R (zy_L (zy_R (zy_R h))))))))
  · exact (zy_L (zy_L (zy_R (zy_R (zy_L (zy_R (zy_L (zy_L h))))))))
  · exact (zy_R (zy_R (zy_R (zy_R (zy_R (zy_L (zy_R (zy_L (zy_L h)))))))))
set_option maxRecDepth 100000 in
theorem zy_el {A : Array Value} {s : State} (h : narrow_1.before A s = true) : ∀ i, i < 41 → (Cond.eq (.elem (.static "TallySlate$Word" "ALL" "[LTallySlate$Word;") (.int (Int32.ofNat i))) (.static "TallySlate$Word" (zy_nm.getD i "") "LTallySlate$Word;")).before A s = true := by
  intro i hi
  have hv : i = 0 ∨ i = 1 ∨ i = 2 ∨ i = 3 ∨ i = 4 ∨ i = 5 ∨ i = 6 ∨ i = 7 ∨ i = 8 ∨ i = 9 ∨ i = 10 ∨ i = 11 ∨ i = 12 ∨ i = 13 ∨ i = 14 ∨ i = 15 ∨ i = 16 ∨ i = 17 ∨ i = 18 ∨ i = 19 ∨ i = 20 ∨ i = 21 ∨ i = 22 ∨ i = 23 ∨ i = 24 ∨ i = 25 ∨ i = 26 ∨ i = 27 ∨ i = 28 ∨ i = 29 ∨ i = 30 ∨ i = 31 ∨ i = 32 ∨ i = 33 ∨ i = 34 ∨ i = 35 ∨ i = 36 ∨ i = 37 ∨ i = 38 ∨ i = 39 ∨ i = 40 := by omega
  rcases hv with rfl | rfl | rfl | rfl | rfl | rfl | rfl | rfl | rfl | rfl | rfl | rfl | rfl | rfl | rfl | rfl | rfl | rfl | rfl | rfl | rfl | rfl | rfl | rfl | rfl | rfl | rfl | rfl | rfl | rfl | rfl | rfl | rfl | rfl | rfl | rfl | rfl | rfl | rfl | rfl | rfl
  · exact (zy_R (zy_R (zy_L (zy_R (zy_L (zy_L (zy_L (zy_L (zy_L h)))))))))
  · exact (zy_L (zy_R (zy_R (zy_L (zy_L (zy_L (zy_L (zy_L h))))))))
  · exact (zy_L (zy_R (zy_R (zy_R (zy_L (zy_L (zy_L (zy_L (zy_L h)))))))))
  · exact (zy_R (zy_R (zy_R (zy_R (zy_L (zy_L (zy_L (zy_L (zy_L h)))))))))
  · exact (zy_L (zy_L (zy_L (zy_R (zy_L (zy_L (zy_L (zy_L h))))))))
  · exact (zy_R (zy_L (zy_L (zy_R (zy_L (zy_L (zy_L (zy_L h))))))))
  · exact (zy_L (zy_R (zy_L (zy_R (zy_L (zy_L (zy_L (zy_L h))))))))
  · exact (zy_L (zy_R (zy_R (zy_L (zy_R (zy_L (zy_L (zy_L (zy_L h)))))))))
  · exact (zy_R (zy_R (zy_R (zy_L (zy_R (zy_L (zy_L (zy_L (zy_L h)))))))))
  · exact (zy_L (zy_L (zy_R (zy_R (zy_L (zy_L (zy_L (zy_L h))))))))
  · exact (zy_L (zy_R (zy_L (zy_R (zy_R (zy_L (zy_L (zy_L (zy_L h)))))))))
  · exact (zy_R (zy_R (zy_L (zy_R (zy_R (zy_L (zy_L (zy_L (zy_L h)))))))))
  · exact (zy_L (zy_R (zy_R (zy_R (zy_L (zy_L (zy_L (zy_L h))))))))
  · exact (zy_L (zy_R (zy_R (zy_R (zy_R (zy_L (zy_L (zy_L (zy_L h)))))))))
  · exact (zy_R (zy_R (zy_R (zy_R (zy_R (zy_L (zy_L (zy_L (zy_L h)))))))))
  · exact (zy_L (zy_L (zy_L (zy_L (zy_R (zy_L (zy_L (zy_L h))))))))
  · exact (zy_R (zy_L (zy_L (zy_L (zy_R (zy_L (zy_L (zy_L h))))))))
  · exact (zy_L (zy_R (zy_L (zy_L (zy_R (zy_L (zy_L (zy_L h))))))))
  · exact (zy_L (zy_R (zy_R (zy_L (zy_L (zy_R (zy_L (zy_L (zy_L h)))))))))
  · exact (zy_R (zy_R (zy_R (zy_L (zy_L (zy_R (zy_L (zy_L (zy_L h)))))))))
  · exact (zy_L (zy_L (zy_R (zy_L (zy_R (zy_L (zy_L (zy_L h))))))))
  · exact (zy_L (zy_R (zy_L (zy_R (zy_L (zy_R (zy_L (zy_L (zy_L h)))))))))
  · exact (zy_R (zy_R (zy_L (zy_R (zy_L (zy_R (zy_L (zy_L (zy_L h)))))))))
  · exact (zy_L (zy_R (zy_R (zy_L (zy_R (zy_L (zy_L (zy_L h))))))))
  · exact (zy_L (zy_R (zy_R (zy_R (zy_L (zy_R (zy_L (zy_L (zy_L h)))))))))
  · exact (zy_R (zy_R (zy_R (zy_R (zy_L (zy_R (zy_L (zy_L (zy_L h)))))))))
  · exact (zy_L (zy_L (zy_L (zy_R (zy_R (zy_L (zy_L (zy_L h))))))))
  · exact (zy_L (zy_R (zy_L (zy_L (zy_R (zy_R (zy_L (zy_L (zy_L h)))))))))
  · exact (zy_R (zy_R (zy_L (zy_L (zy_R (zy_R (zy_L (zy_L (zy_L h)))))))))
  · exact (zy_L (zy_R (zy_L (zy_R (zy_R (zy_L (zy_L (zy_L h))))))))
  · exact (zy_L (zy_R (zy_R (zy_L (zy_R (zy_R (zy_L (zy_L (zy_L h)))))))))
  · exact (zy_R (zy_R (zy_R (zy_L (zy_R (zy_R (zy_L (zy_L (zy_L h)))))))))
  · exact (zy_L (zy_L (zy_R (zy_R (zy_R (zy_L (zy_L (zy_L h))))))))
  · exact (zy_L (zy_R (zy_L (zy_R (zy_R (zy_R (zy_L (zy_L (zy_L h)))))))))
  · exact (zy_R (zy_R (zy_L (zy_R (zy_R (zy_R (zy_L (zy_L (zy_L h)))))))))
  · exact (zy_L (zy_R (zy_R (zy_R (zy_R (zy_L (zy_L (zy_L h))))))))
  · exact (zy_L (zy_R (zy_R (zy_R (zy_R (zy_R (zy_L (zy_L (zy_L h)))))))))
  · exact (zy_R (zy_R (zy_R (zy_R (zy_R (zy_R (zy_L (zy_L (zy_L h)))))))))
  · exact (zy_L (zy_L (zy_L (zy_L (zy_L (zy_R (zy_L (zy_L h))))))))
  · exact (zy_R (zy_L (zy_L (zy_L (zy_L (zy_R (zy_L (zy_L h))))))))
  · exact (zy_L (zy_R (zy_L (zy_L (zy_L (zy_R (zy_L (zy_L h))))))))
set_option maxRecDepth 100000 in
theorem zy_ml {A : Array Value} {s : State} (h : narrow_1.before A s = true) : ∀ i, i < 41 → (Cond.eq (.elem (.static "TallySlate$1" "$SwitchMap$TallySlate$Word" "[I") (.int (Int32.ofNat i))) (.int (zy_map.getD i 0))).before A s = true := by
  intro i hi
  have hv : i = 0 ∨ i = 1 ∨ i = 2 ∨ i = 3 ∨ i = 4 ∨ i = 5 ∨ i = 6 ∨ i = 7 ∨ i = 8 ∨ i = 9 ∨ i = 10 ∨ i = 11 ∨ i = 12 ∨ i = 13 ∨ i = 14 ∨ i = 15 ∨ i = 16 ∨ i = 17 ∨ i = 18 ∨ i = 19 ∨ i = 20 ∨ i = 21 ∨ i = 22 ∨ i = 23 ∨ i = 24 ∨ i = 25 ∨ i = 26 ∨ i = 27 ∨ i = 28 ∨ i = 29 ∨ i = 30 ∨ i = 31 ∨ i = 32 ∨ i = 33 ∨ i = 34 ∨ i = 35 ∨ i = 36 ∨ i = 37 ∨ i = 38 ∨ i = 39 ∨ i = 40 := by omega
  rcases hv with rfl | rfl | rfl | rfl | rfl | rfl | rfl | rfl | rfl | rfl | rfl | rfl | rfl | rfl | rfl | rfl | rfl | rfl | rfl | rfl | rfl | rfl | rfl | rfl | rfl | rfl | rfl | rfl | rfl | rfl | rfl | rfl | rfl | rfl | rfl | rfl | rfl | rfl | rfl | rfl | rfl
  · exact (zy_L (zy_L (zy_L (zy_R (zy_R (zy_R (zy_L (zy_L h))))))))
  · exact (zy_L (zy_R (zy_L (zy_L (zy_R (zy_R (zy_R (zy_L (zy_L h)))))))))
  · exact (zy_R (zy_R (zy_L (zy_L (zy_R (zy_R (zy_R (zy_L (zy_L h)))))))))
  · exact (zy_L (zy_R (zy_L (zy_R (zy_R (zy_R (zy_L (zy_L h))))))))
  · exact (zy_L (zy_R (zy_R (zy_L (zy_R (zy_R (zy_R (zy_L (zy_L h)))))))))
  · exact (zy_R (zy_R (zy_R (zy_L (zy_R (zy_R (zy_R (zy_L (zy_L h)))))))))
  · exact (zy_L (zy_L (zy_R (zy_R (zy_R (zy_R (zy_L (zy_L h))))))))
  · exact (zy_L (zy_R (zy_L (zy_R (zy_R (zy_R (zy_R (zy_L (zy_L h)))))))))
  · exact (zy_R (zy_R (zy_L (zy_R (zy_R (zy_R (zy_R (zy_L (zy_L h)))))))))
  · exact (zy_L (zy_R (zy_R (zy_R (zy_R (zy_R (zy_L (zy_L h))))))))
  · exact (zy_L (zy_R (zy_R (zy_R (zy_R (zy_R (zy_R (zy_L (zy_L h)))))))))
  · exact (zy_R (zy_R (zy_R (zy_R (zy_R (zy_R (zy_R (zy_L (zy_L h)))))))))
  · exact (zy_L (zy_L (zy_L (zy_L (zy_L (zy_L (zy_R (zy_L h))))))))
  · exact (zy_R (zy_L (zy_L (zy_L (zy_L (zy_L (zy_R (zy_L h))))))))
  · exact (zy_L (zy_R (zy_L (zy_L (zy_L (zy_L (zy_R (zy_L h))))))))
  · exact (zy_L (zy_R (zy_R (zy_L (zy_L (zy_L (zy_L (zy_R (zy_L h)))))))))
  · exact (zy_R (zy_R (zy_R (zy_L (zy_L (zy_L (zy_L (zy_R (zy_L h)))))))))
  · exact (zy_L (zy_L (zy_R (zy_L (zy_L (zy_L (zy_R (zy_L h))))))))
  · exact (zy_L (zy_R (zy_L (zy_R (zy_L (zy_L (zy_L (zy_R (zy_L h)))))))))
  · exact (zy_R (zy_R (zy_L (zy_R (zy_L (zy_L (zy_L (zy_R (zy_L h)))))))))
  · exact (zy_L (zy_R (zy_R (zy_L (zy_L (zy_L (zy_R (zy_L h))))))))
  · exact (zy_L (zy_R (zy_R (zy_R (zy_L (zy_L (zy_L (zy_R (zy_L h)))))))))
  · exact (zy_R (zy_R (zy_R (zy_R (zy_L (zy_L (zy_L (zy_R (zy_L h)))))))))
  · exact (zy_L (zy_L (zy_L (zy_R (zy_L (zy_L (zy_R (zy_L h))))))))
  · exact (zy_R (zy_L (zy_L (zy_R (zy_L (zy_L (zy_R (zy_L h))))))))
  · exact (zy_L (zy_R (zy_L (zy_R (zy_L (zy_L (zy_R (zy_L h))))))))
  · exact (zy_L (zy_R (zy_R (zy_L (zy_R (zy_L (zy_L (zy_R (zy_L h)))))))))
  · exact (zy_R (zy_R (zy_R (zy_L (zy_R (zy_L (zy_L (zy_R (zy_L h)))))))))
  · exact (zy_L (zy_L (zy_R (zy_R (zy_L (zy_L (zy_R (zy_L h))))))))
  · exact (zy_L (zy_R (zy_L (zy_R (zy_R (zy_L (zy_L (zy_R (zy_L h)))))))))
  · exact (zy_R (zy_R (zy_L (zy_R (zy_R (zy_L (zy_L (zy_R (zy_L h)))))))))
  · exact (zy_L (zy_R (zy_R (zy_R (zy_L (zy_L (zy_R (zy_L h))))))))
  · exact (zy_L (zy_R (zy_R (zy_R (zy_R (zy_L (zy_L (zy_R (zy_L h)))))))))
  · exact (zy_R (zy_R (zy_R (zy_R (zy_R (zy_L (zy_L (zy_R (zy_L h)))))))))
  · exact (zy_L (zy_L (zy_L (zy_L (zy_R (zy_L (zy_R (zy_L h))))))))
  · exact (zy_R (zy_L (zy_L (zy_L (zy_R (zy_L (zy_R (zy_L h))))))))
  · exact (zy_L (zy_R (zy_L (zy_L (zy_R (zy_L (zy_R (zy_L h))))))))
  · exact (zy_L (zy_R (zy_R (zy_L (zy_L (zy_R (zy_L (zy_R (zy_L h)))))))))
  · exact (zy_R (zy_R (zy_R (zy_L (zy_L (zy_R (zy_L (zy_R (zy_L h)))))))))
  · exact (zy_L (zy_L (zy_R (zy_L (zy_R (zy_L (zy_R (zy_L h))))))))
  · exact (zy_L (zy_R (zy_L (zy_R (zy_L (zy_R (zy_L (zy_R (zy_L h)))))))))
set_option maxRecDepth 100000 in
theorem zy_b0 {A : Array Value} {s : State} (h : narrow_1.before A s = true) : ∀ i, i < 19 → (Cond.eq (.elem (.field (.string "TallySlate$Tokens" 65) "java/lang/String" "value" "[B") (.int (Int32.ofNat i))) (.int ((zy_byt 0).getD i 0))).before A s = true := by
  intro i hi
  have hv : i = 0 ∨ i = 1 ∨ i = 2 ∨ i = 3 ∨ i = 4 ∨ i = 5 ∨ i = 6 ∨ i = 7 ∨ i = 8 ∨ i = 9 ∨ i = 10 ∨ i = 11 ∨ i = 12 ∨ i = 13 ∨ i = 14 ∨ i = 15 ∨ i = 16 ∨ i = 17 ∨ i = 18 := by omega
  rcases hv with rfl | rfl | rfl | rfl | rfl | rfl | rfl | rfl | rfl | rfl | rfl | rfl | rfl | rfl | rfl | rfl | rfl | rfl | rfl
  · exact (zy_L (zy_R (zy_L (zy_R (zy_L (zy_L (zy_R (zy_R (zy_R h)))))))))
  · exact (zy_R (zy_R (zy_L (zy_R (zy_L (zy_L (zy_R (zy_R (zy_R h)))))))))
  · exact (zy_L (zy_R (zy_R (zy_L (zy_L (zy_R (zy_R (zy_R h))))))))
  · exact (zy_L (zy_R (zy_R (zy_R (zy_L (zy_L (zy_R (zy_R (zy_R h)))))))))
  · exact (zy_R (zy_R (zy_R (zy_R (zy_L (zy_L (zy_R (zy_R (zy_R h)))))))))
  · exact (zy_L (zy_L (zy_L (zy_R (zy_L (zy_R (zy_R (zy_R h))))))))
  · exact (zy_R (zy_L (zy_L (zy_R (zy_L (zy_R (zy_R (zy_R h))))))))
  · exact (zy_L (zy_R (zy_L (zy_R (zy_L (zy_R (zy_R (zy_R h))))))))
  · exact (zy_L (zy_R (zy_R (zy_L (zy_R (zy_L (zy_R (zy_R (zy_R h)))))))))
  · exact (zy_R (zy_R (zy_R (zy_L (zy_R (zy_L (zy_R (zy_R (zy_R h)))))))))
  · exact (zy_L (zy_L (zy_R (zy_R (zy_L (zy_R (zy_R (zy_R h))))))))
  · exact (zy_L (zy_R (zy_L (zy_R (zy_R (zy_L (zy_R (zy_R (zy_R h)))))))))
  · exact (zy_R (zy_R (zy_L (zy_R (zy_R (zy_L (zy_R (zy_R (zy_R h)))))))))
  · exact (zy_L (zy_R (zy_R (zy_R (zy_L (zy_R (zy_R (zy_R h))))))))
  · exact (zy_L (zy_R (zy_R (zy_R (zy_R (zy_L (zy_R (zy_R (zy_R h)))))))))
  · exact (zy_R (zy_R (zy_R (zy_R (zy_R (zy_L (zy_R (zy_R (zy_R h)))))))))
  · exact (zy_L (zy_L (zy_L (zy_L (zy_R (zy_R (zy_R (zy_R h))))))))
  · exact (zy_R (zy_L (zy_L (zy_L (zy_R (zy_R (zy_R (zy_R h))))))))
  · exact (zy_L (zy_R (zy_L (zy_L (zy_R (zy_R (zy_R (zy_R h))))))))
theorem zy_s0 {A : Array Value} {s : State} (h : narrow_1.before A s = true) : (Cond.exactly (.string "TallySlate$Tokens" 65) "java/lang/String").before A s = true ∧ (Cond.eq (.field (.string "TallySlate$Tokens" 65) "java/lang/String" "coder" "B") (.int 0)).before A s = true ∧ (Cond.arrayOf (.field (.string "TallySlate$Tokens" 65) "java/lang/String" "value" "[B") .byte).before A s = true ∧ (Cond.eq (.length (.field (.string "TallySlate$Tokens" 65) "java/lang/String" "value" "[B")) (.int 19)).before A s = true := ⟨(zy_L (zy_R (zy_L (zy_L (zy_L (zy_R (zy_R (zy_R h)))))))), (zy_L (zy_R (zy_R (zy_L (zy_L (zy_L (zy_R (zy_R (zy_R h))))))))), (zy_R (zy_R (zy_R (zy_L (zy_L (zy_L (zy_R (zy_R (zy_R h))))))))), (zy_L (zy_L (zy_R (zy_L (zy_L (zy_R (zy_R (zy_R h))))))))⟩
set_option maxRecDepth 100000 in
theorem zy_b1 {A : Array Value} {s : State} (h : narrow_1.before A s = true) : ∀ i, i < 4 → (Cond.eq (.elem (.field (.string "TallySlate$Tokens" 73) "java/lang/String" "value" "[B") (.int (Int32.ofNat i))) (.int ((zy_byt 1).getD i 0))).before A s = true := by
  intro i hi
  have hv : i = 0 ∨ i = 1 ∨ i = 2 ∨ i = 3 := by omega
  rcases hv with rfl | rfl | rfl | rfl
  · exact (zy_R (zy_R (zy_L (zy_R (zy_L (zy_R (zy_R (zy_R (zy_R h)))))))))
  · exact (zy_L (zy_R (zy_R (zy_L (zy_R (zy_R (zy_R (zy_R h))))))))
  · exact (zy_L (zy_R (zy_R (zy_R (zy_L (zy_R (zy_R (zy_R (zy_R h)))))))))
  · exact (zy_R (zy_R (zy_R (zy_R (zy_L (zy_R (zy_R (zy_R (zy_R h)))))))))
theorem zy_s1 {A : Array Value} {s : State} (h : narrow_1.before A s = true) : (Cond.exactly (.string "TallySlate$Tokens" 73) "java/lang/String").before A s = true ∧ (Cond.eq (.field (.string "TallySlate$Tokens" 73) "java/lang/String" "coder" "B") (.int 0)).before A s = true ∧ (Cond.arrayOf (.field (.string "TallySlate$Tokens" 73) "java/lang/String" "value" "[B") .byte).before A s = true ∧ (Cond.eq (.length (.field (.string "TallySlate$Tokens" 73) "java/lang/String" "value" "[B")) (.int 4)).before A s = true := ⟨(zy_L (zy_R (zy_R (zy_L (zy_L (zy_R (zy_R (zy_R (zy_R h))))))))), (zy_R (zy_R (zy_R (zy_L (zy_L (zy_R (zy_R (zy_R (zy_R h))))))))), (zy_L (zy_L (zy_R (zy_L (zy_R (zy_R (zy_R (zy_R h)))))))), (zy_L (zy_R (zy_L (zy_R (zy_L (zy_R (zy_R (zy_R (zy_R h)))))))))⟩
set_option maxRecDepth 100000 in
theorem zy_b2 {A : Array Value} {s : State} (h : narrow_1.before A s = true) : ∀ i, i < 7 → (Cond.eq (.elem (.field (.string "TallySlate$Parser" 276) "java/lang/String" "value" "[B") (.int (Int32.ofNat i))) (.int ((zy_byt 2).getD i 0))).before A s = true := by
  intro i hi
  have hv : i = 0 ∨ i = 1 ∨ i = 2 ∨ i = 3 ∨ i = 4 ∨ i = 5 ∨ i = 6 := by omega
  rcases hv with rfl | rfl | rfl | rfl | rfl | rfl | rfl
  · exact (zy_L (zy_R (zy_R (zy_L (zy_R (zy_R (zy_R (zy_R (zy_R h)))))))))
  · exact (zy_R (zy_R (zy_R (zy_L (zy_R (zy_R (zy_R (zy_R (zy_R h)))))))))
  · exact (zy_L (zy_L (zy_R (zy_R (zy_R (zy_R (zy_R (zy_R h))))))))
  · exact (zy_L (zy_R (zy_L (zy_R (zy_R (zy_R (zy_R (zy_R (zy_R h)))))))))
  · exact (zy_R (zy_R (zy_L (zy_R (zy_R (zy_R (zy_R (zy_R (zy_R h)))))))))
  · exact (zy_L (zy_R (zy_R (zy_R (zy_R (zy_R (zy_R (zy_R h))))))))
  · exact (zy_L (zy_R (zy_R (zy_R (zy_R (zy_R (zy_R (zy_R (zy_R h)))))))))
theorem zy_s2 {A : Array Value} {s : State} (h : narrow_1.before A s = true) : (Cond.exactly (.string "TallySlate$Parser" 276) "java/lang/String").before A s = true ∧ (Cond.eq (.field (.string "TallySlate$Parser" 276) "java/lang/String" "coder" "B") (.int 0)).before A s = true ∧ (Cond.arrayOf (.field (.string "TallySlate$Parser" 276) "java/lang/String" "value" "[B") .byte).before A s = true ∧ (Cond.eq (.length (.field (.string "TallySlate$Parser" 276) "java/lang/String" "value" "[B")) (.int 7)).before A s = true := ⟨(zy_L (zy_L (zy_L (zy_R (zy_R (zy_R (zy_R (zy_R h)))))))), (zy_L (zy_R (zy_L (zy_L (zy_R (zy_R (zy_R (zy_R (zy_R h))))))))), (zy_R (zy_R (zy_L (zy_L (zy_R (zy_R (zy_R (zy_R (zy_R h))))))))), (zy_L (zy_R (zy_L (zy_R (zy_R (zy_R (zy_R (zy_R h))))))))⟩
theorem zy_all {A : Array Value} {s : State} (h : narrow_1.before A s = true) : (Cond.arrayOf (.static "TallySlate$Word" "ALL" "[LTallySlate$Word;") (.object "TallySlate$Word")).before A s = true ∧ (Cond.eq (.length (.static "TallySlate$Word" "ALL" "[LTallySlate$Word;")) (.int 41)).before A s = true := ⟨(zy_R (zy_R (zy_R (zy_L (zy_L (zy_L (zy_L (zy_L (zy_L h))))))))), (zy_L (zy_L (zy_R (zy_L (zy_L (zy_L (zy_L (zy_L h))))))))⟩
theorem zy_map1 {A : Array Value} {s : State} (h : narrow_1.before A s = true) : (Cond.arrayOf (.static "TallySlate$1" "$SwitchMap$TallySlate$Word" "[I") .int).before A s = true ∧ (Cond.eq (.length (.static "TallySlate$1" "$SwitchMap$TallySlate$Word" "[I")) (.int 41)).before A s = true := ⟨(zy_L (zy_R (zy_R (zy_R (zy_L (zy_R (zy_R (zy_L (zy_L h))))))))), (zy_R (zy_R (zy_R (zy_R (zy_L (zy_R (zy_R (zy_L (zy_L h)))))))))⟩
theorem zy_oth {A : Array Value} {s : State} (h : narrow_1.before A s = true) : (Cond.eq (.static "java/lang/String" "COMPACT_STRINGS" "Z") (.int 1)).before A s = true ∧ (Cond.isRef (.static Bundle.tN "UNASSIGNED_STACK" Bundle.steD)).before A s = true ∧ (Cond.isRef (.static Bundle.tN "SUPPRESSED_SENTINEL" Bundle.listD)).before A s = true := ⟨(zy_L (zy_R (zy_R (zy_L (zy_L (zy_L (zy_R (zy_L (zy_L h))))))))), (zy_L (zy_R (zy_L (zy_R (zy_L (zy_R (zy_L (zy_L h)))))))), (zy_L (zy_R (zy_R (zy_L (zy_R (zy_L (zy_R (zy_L (zy_L h)))))))))⟩
set_option maxRecDepth 100000 in
theorem zy_wALL : Cond.laysStatic "TallySlate$Word" "ALL" "[LTallySlate$Word;" ∈ lw_tbl := List.mem_of_getElem? (i := 663) (by rfl)
set_option maxRecDepth 100000 in
theorem zy_wFN : Cond.laysStatic "TallySlate$Word" "FN" "LTallySlate$Word;" ∈ lw_tbl := List.mem_of_getElem? (i := 778) (by rfl)
set_option maxRecDepth 100000 in
theorem zy_wELSE : Cond.laysStatic "TallySlate$Word" "ELSE" "LTallySlate$Word;" ∈ lw_tbl := List.mem_of_getElem? (i := 1001) (by rfl)
set_option maxRecDepth 100000 in
theorem zy_wIN : Cond.laysStatic "TallySlate$Word" "IN" "LTallySlate$Word;" ∈ lw_tbl := List.mem_of_getElem? (i := 1019) (by rfl)
set_option maxRecDepth 100000 in
theorem zy_wON : Cond.laysStatic "TallySlate$Word" "ON" "LTallySlate$Word;" ∈ lw_tbl := List.mem_of_getElem? (i := 1029) (by rfl)
set_option maxRecDepth 100000 in
theorem zy_wBOX : Cond.laysStatic "TallySlate$Word" "BOX" "LTallySlate$Word;" ∈ lw_tbl := List.mem_of_getElem? (i := 972) (by rfl)
set_option maxRecDepth 100000 in
theorem zy_wSUM : Cond.laysStatic "TallySlate$Word" "SUM" "LTallySlate$Word;" ∈ lw_tbl := List.mem_of_getElem? (i := 1321) (by rfl)
set_option maxRecDepth 100000 in
theorem zy_wMAX : Cond.laysStatic "TallySlate$Word" "MAX" "LTallySlate$Word;" ∈ lw_tbl := List.mem_of_getElem? (i := 1327) (by rfl)
set_option maxRecDepth 100000 in
theorem zy_wSORT : Cond.laysStatic "TallySlate$Word" "SORT" "LTallySlate$Word;" ∈ lw_tbl := List.mem_of_getElem? (i := 1337) (by rfl)
set_option maxRecDepth 100000 in
theorem zy_wEACH : Cond.laysStatic "TallySlate$Word" "EACH" "LTallySlate$Word;" ∈ lw_tbl := List.mem_of_getElem? (i := 958) (by rfl)
set_option maxRecDepth 100000 in
theorem zy_wFOLD : Cond.laysStatic "TallySlate$Word" "FOLD" "LTallySlate$Word;" ∈ lw_tbl := List.mem_of_getElem? (i := 960) (by rfl)
set_option maxRecDepth 100000 in
theorem zy_wMAP : Cond.laysStatic "TallySlate$1" "$SwitchMap$TallySlate$Word" "[I" ∈ lw_tbl := List.mem_of_getElem? (i := 985) (by rfl)
set_option maxRecDepth 100000 in
theorem zy_wCOMP : Cond.laysStatic "java/lang/String" "COMPACT_STRINGS" "Z" ∈ lw_tbl := List.mem_of_getElem? (i := 685) (by rfl)
set_option maxRecDepth 100000 in
theorem zy_wUN : Cond.laysStatic Bundle.tN "UNASSIGNED_STACK" Bundle.steD ∈ lw_tbl := List.mem_of_getElem? (i := 829) (by rfl)
set_option maxRecDepth 100000 in
theorem zy_wSU : Cond.laysStatic Bundle.tN "SUPPRESSED_SENTINEL" Bundle.listD ∈ lw_tbl := List.mem_of_getElem? (i := 831) (by rfl)
set_option maxRecDepth 100000 in
theorem zy_iW : Cond.initialized "TallySlate$Word" ∈ lw_tbl := List.mem_of_getElem? (i := 232) (by rfl)
set_option maxRecDepth 100000 in
theorem zy_i1 : Cond.initialized "TallySlate$1" ∈ lw_tbl := List.mem_of_getElem? (i := 242) (by rfl)
set_option maxRecDepth 100000 in
theorem zy_iS : Cond.initialized "java/lang/String" ∈ lw_tbl := List.mem_of_getElem? (i := 233) (by rfl)
set_option maxRecDepth 100000 in
theorem zy_iT : Cond.initialized Bundle.tN ∈ lw_tbl := List.mem_of_getElem? (i := 238) (by rfl)
set_option maxRecDepth 100000 in
theorem zy_r0 : Cond.stringRef "TallySlate$Tokens" 65 "{}()[];,=<>+-*/%&|!" ∈ lw_tbl := List.mem_of_getElem? (i := 671) (by rfl)
set_option maxRecDepth 100000 in
theorem zy_r1 : Cond.stringRef "TallySlate$Tokens" 73 "=!<>" ∈ lw_tbl := List.mem_of_getElem? (i := 756) (by rfl)
set_option maxRecDepth 100000 in
theorem zy_r2 : Cond.stringRef "TallySlate$Parser" 276 "a fault" ∈ lw_tbl := List.mem_of_getElem? (i := 841) (by rfl)
theorem zy_eqr {args : Array Value} {s : State} {t u : Term} {a : Nat} (h : (Cond.eq t u).before args s = true) (hu : u.eval args s none [] s = some (.ref a)) : t.eval args s none [] s = some (.ref a) := by
  cases hv : t.eval args s none [] s with
  | none => simp [Cond.before, Cond.holds, Cond.value, hv] at h
  | some w =>
    simp only [Cond.before, Cond.holds, Cond.value, hv, hu] at h
    cases w <;> simp_all
/-- an array outside, as it is read -/
theorem zy_rd {s : State} {B : Nat} {O : Nat → Nat} {j t n : Nat} {d : (Nat → Int32) ⊕ (Nat → Int64) ⊕ (Nat → UInt32) ⊕ (Nat → UInt64) ⊕ (Nat → Option Nat)} {f : Nat → Value} {A : Nat → Prop} (h : va_T (zz_ty t) (O j) n f A s s.heap) (hf : ∀ i, i < n → f i = zz_dv B O d i) : zz_Rd s B O s.heap (zz_out + j) (.inl (t, n, d)) := by
  obtain ⟨cell, h1, h2, h3, h4, h5, h6, h7⟩ := h
  exact ⟨cell, by rw [zz_a_x]; exact h1, h2, h3, ⟨h4, h5⟩, fun i hi => by rw [h6 i hi, hf i hi]⟩
theorem zy_code_inj : ∀ i, i < 41 → ∀ j, j < 41 → zy_code.getD i 0 = zy_code.getD j 0 → i = j := by decide +kernel
theorem zy_ofu {o n d : String} {v w : Value} {t : Nat} {A : Nat → Prop} {U : State} {H : Heap} (h : va_OF o n d v t A U H) (g : va_OF o n d w t A U H) : v = w := by
  obtain ⟨cf, k, i, f, cell, h1, h2, h3, h4, h5, h6⟩ := h
  obtain ⟨cf', k', i', f', cell', g1, g2, g3, g4, g5, g6⟩ := g
  rw [h1] at g1
  cases g1
  rw [h3] at g3
  cases g3
  rw [h5] at g5
  exact Option.some.inj g5
set_option maxHeartbeats 4000000 in
set_option maxRecDepth 100000 in
theorem zy_world {s : State} {b L : Nat} {xs : Nat → Int32} (hts : ∀ w ∈ lw_tbl, w.before #[Value.ref b] s = true) (h : narrow_1.before #[Value.ref b] s = true) (hX : va_X b L xs s s.heap) (hbl : b < s.heap.size) : ∃ O : Nat → Nat, O 0 = b ∧ zz_X s s.heap.size O (zt_X L xs) s.heap ∧ zz_Y s.heap.size O (zt_X L xs) s s.heap := by
  have hA : ∀ a : Nat, a < s.heap.size → ¬ (fun q => s.heap.size ≤ q) a := fun a ha q => absurd ha (Nat.not_lt.mpr q)
  have h0 : ∀ i : Nat, ∃ a : Nat, i < 41 → (Term.static "TallySlate$Word" (zy_nm.getD i "") "LTallySlate$Word;").eval #[Value.ref b] s none [] s = some (.ref a) := fun i => by
    by_cases hi : i < 41
    · obtain ⟨a, c, cell, k, q1, -⟩ := Cond.exactly_spec (zy_ex h i hi)
      exact ⟨a, fun _ => q1⟩
    · exact ⟨0, fun q => absurd q hi⟩
  obtain ⟨ad, had⟩ := Classical.axiomOfChoice h0
  obtain ⟨aA, eA, tA⟩ := va_Tof (ty := .object "TallySlate$Word") (N := 41) (f := fun j => .ref (ad j)) (A := fun q => s.heap.size ≤ q) (by decide) (zy_all h).1 (va_eqt (zy_all h).2) (fun j hj => zy_eqr (zy_el h j hj) (had j hj)) hA
  obtain ⟨aM, eM, tM⟩ := va_Tof (ty := .int) (N := 41) (f := fun j => .int (zy_map.getD j 0)) (A := fun q => s.heap.size ≤ q) (by decide) (zy_map1 h).1 (va_eqt (zy_map1 h).2) (fun j hj => va_eqt (zy_ml h j hj)) hA
  obtain ⟨k0, -, -, -, e0, -⟩ := Cond.exactly_spec (zy_s0 h).1
  obtain ⟨k1, -, -, -, e1, -⟩ := Cond.exactly_spec (zy_s1 h).1
  obtain ⟨k2, -, -, -, e2, -⟩ := Cond.exactly_spec (zy_s2 h).1
  obtain ⟨v0, f0, t0⟩ := va_Tof (ty := .byte) (N := 19) (f := fun j => .int ((zy_byt 0).getD j 0)) (A := fun q => s.heap.size ≤ q) (by decide) (zy_s0 h).2.2.1 (va_eqt (zy_s0 h).2.2.2) (fun j hj => va_eqt (zy_b0 h j hj)) hA
  obtain ⟨v1, f1, t1⟩ := va_Tof (ty := .byte) (N := 4) (f := fun j => .int ((zy_byt 1).getD j 0)) (A := fun q => s.heap.size ≤ q) (by decide) (zy_s1 h).2.2.1 (va_eqt (zy_s1 h).2.2.2) (fun j hj => va_eqt (zy_b1 h j hj)) hA
  obtain ⟨v2, f2, t2⟩ := va_Tof (ty := .byte) (N := 7) (f := fun j => .int ((zy_byt 2).getD j 0)) (A := fun q => s.heap.size ≤ q) (by decide) (zy_s2 h).2.2.1 (va_eqt (zy_s2 h).2.2.2) (fun j hj => va_eqt (zy_b2 h j hj)) hA
  have lt_T : ∀ {ty : FieldType} {t n : Nat} {f : Nat → Value}, va_T ty t n f (fun q => s.heap.size ≤ q) s s.heap → t < s.heap.size := fun hT => by
    obtain ⟨cell, q1, -⟩ := hT
    exact (Array.getElem?_eq_some_iff.mp q1).1
  have lt_O : ∀ {E : String} {t : Nat}, va_O E t (fun q => s.heap.size ≤ q) s s.heap → t < s.heap.size := fun hT => by
    obtain ⟨cell, q1, -⟩ := hT
    exact (Array.getElem?_eq_some_iff.mp q1).1
  have oE : ∀ i, i < 41 → va_O "TallySlate$Word" (ad i) (fun q => s.heap.size ≤ q) s s.heap := fun i hi => va_Oof (zy_ex h i hi) (had i hi) hA
  have o0 := va_Oof (A := fun q => s.heap.size ≤ q) (zy_s0 h).1 e0 hA
  have o1 := va_Oof (A := fun q => s.heap.size ≤ q) (zy_s1 h).1 e1 hA
  have o2 := va_Oof (A := fun q => s.heap.size ≤ q) (zy_s2 h).1 e2 hA
  have fC : ∀ i, i < 41 → va_OF "TallySlate$Word" "code" "J" (.long (zy_code.getD i 0)) (ad i) (fun q => s.heap.size ≤ q) s s.heap := fun i hi => vk_OFof (had i hi) (va_eqtl (zy_co h i hi)) hA
  refine ⟨fun j => if j = 0 then b else if j < 42 then ad (j - 1) else if j = 42 then aA else if j = 43 then aM else if j = 44 then k0 else if j = 45 then k1 else if j = 46 then k2 else if j = 47 then v0 else if j = 48 then v1 else if j = 49 then v2 else b, rfl, ?_, ?_⟩
  · intro j x hx
    unfold zt_X at hx
    by_cases c0 : j = 0
    · subst c0
      rw [if_pos rfl] at hx
      cases hx
      obtain ⟨scr, q1, q2, q3, q4, q5⟩ := hX
      exact ⟨⟨scr, by rw [zz_a_x]; exact q1, q2, q3, ⟨Nat.le_of_eq q4.symm, by rw [q4]⟩, q5⟩, hbl⟩
    · rw [if_neg c0] at hx
      by_cases c1 : j < 42
      · rw [if_pos c1] at hx
        cases hx
        refine ⟨trivial, ?_⟩
        show (if j = 0 then b else if j < 42 then ad (j - 1) else _) < _
        rw [if_neg c0, if_pos c1]
        exact lt_O (oE (j - 1) (by omega))
      · rw [if_neg c1] at hx
        by_cases c2 : j = 42
        · subst c2
          rw [if_pos rfl] at hx
          cases hx
          refine ⟨zy_rd (t := 6) tA (fun i hi => ?_), lt_T tA⟩
          show Value.ref (ad i) = va_rf ((some (zz_out + (i + 1))).map (zz_a _ _))
          show Value.ref (ad i) = .ref (zz_a _ _ (zz_out + (i + 1)))
          rw [zz_a_x]
          show Value.ref (ad i) = .ref (if i + 1 = 0 then b else if i + 1 < 42 then ad (i + 1 - 1) else _)
          rw [if_neg (by omega), if_pos (by omega), Nat.add_sub_cancel]
        · rw [if_neg c2] at hx
          by_cases c3 : j = 43
          · subst c3
            rw [if_pos rfl] at hx
            cases hx
            exact ⟨zy_rd (t := 0) tM (fun i hi => rfl), lt_T tM⟩
          · rw [if_neg c3] at hx
            by_cases c4 : j < 47
            · rw [if_pos c4] at hx
              cases hx
              have hv : j = 44 ∨ j = 45 ∨ j = 46 := by omega
              rcases hv with rfl | rfl | rfl
              · exact ⟨trivial, lt_O o0⟩
              · exact ⟨trivial, lt_O o1⟩
              · exact ⟨trivial, lt_O o2⟩
            · rw [if_neg c4] at hx
              by_cases c5 : j < 50
              · rw [if_pos c5] at hx
                cases hx
                have hv : j = 47 ∨ j = 48 ∨ j = 49 := by omega
                rcases hv with rfl | rfl | rfl
                · exact ⟨zy_rd (t := 2) t0 (fun i hi => rfl), lt_T t0⟩
                · exact ⟨zy_rd (t := 2) t1 (fun i hi => rfl), lt_T t1⟩
                · exact ⟨zy_rd (t := 2) t2 (fun i hi => rfl), lt_T t2⟩
              · rw [if_neg c5] at hx
                cases hx
  · refine ⟨?_, ?_, ?_, ?_, ?_, ?_⟩
    · intro j ci fs hx
      unfold zt_X at hx
      by_cases c0 : j = 0
      · rw [if_pos c0] at hx
        cases hx
      · rw [if_neg c0] at hx
        by_cases c1 : j < 42
        · rw [if_pos c1] at hx
          cases hx
          have eO : (if j = 0 then b else if j < 42 then ad (j - 1) else if j = 42 then aA else if j = 43 then aM else if j = 44 then k0 else if j = 45 then k1 else if j = 46 then k2 else if j = 47 then v0 else if j = 48 then v1 else if j = 49 then v2 else b) = ad (j - 1) := by rw [if_neg c0, if_pos c1]
          dsimp only
          rw [eO]
          refine ⟨oE (j - 1) (by omega), fun k v hv => ?_⟩
          have hj : j - 1 < 41 := by omega
          match k, hv with
          | 0, hv => cases hv; exact fC (j - 1) hj
          | 1, hv => cases hv; exact vk_OFof (had (j - 1) hj) (va_eqt (zy_le h (j - 1) hj)) hA
          | 2, hv => cases hv; exact vk_OFof (had (j - 1) hj) (va_eqt (zy_mo h (j - 1) hj)) hA
          | 3, hv => cases hv; exact vk_OFof (had (j - 1) hj) (va_eqt (zy_or h (j - 1) hj)) hA
          | k + 4, hv => cases hv
        · rw [if_neg c1] at hx
          by_cases c2 : j = 42
          · rw [if_pos c2] at hx
            cases hx
          · rw [if_neg c2] at hx
            by_cases c3 : j = 43
            · rw [if_pos c3] at hx
              cases hx
            · rw [if_neg c3] at hx
              by_cases c4 : j < 47
              · rw [if_pos c4] at hx
                have hv : j = 44 ∨ j = 45 ∨ j = 46 := by omega
                rcases hv with rfl | rfl | rfl
                · cases hx
                  refine ⟨o0, fun k v hv => ?_⟩
                  match k, hv with
                  | 0, hv => cases hv; exact vk_OFof e0 f0 hA
                  | 1, hv => cases hv; exact vk_OFof e0 (va_eqt (zy_s0 h).2.1) hA
                  | k + 2, hv => cases hv
                · cases hx
                  refine ⟨o1, fun k v hv => ?_⟩
                  match k, hv with
                  | 0, hv => cases hv; exact vk_OFof e1 f1 hA
                  | 1, hv => cases hv; exact vk_OFof e1 (va_eqt (zy_s1 h).2.1) hA
                  | k + 2, hv => cases hv
                · cases hx
                  refine ⟨o2, fun k v hv => ?_⟩
                  match k, hv with
                  | 0, hv => cases hv; exact vk_OFof e2 f2 hA
                  | 1, hv => cases hv; exact vk_OFof e2 (va_eqt (zy_s2 h).2.1) hA
                  | k + 2, hv => cases hv
              · rw [if_neg c4] at hx
                by_cases c5 : j < 50
                · rw [if_pos c5] at hx
                  cases hx
                · rw [if_neg c5] at hx
                  cases hx
    · intro q hq
      simp only [zx_S, List.mem_cons, List.mem_nil_iff, or_false] at hq
      rcases hq with rfl | rfl | rfl | rfl | rfl | rfl | rfl | rfl | rfl | rfl | rfl | rfl | rfl
      · exact va_Zref (hts _ zy_wMAP) (hts _ zy_i1) eM hA
      · exact va_Zref (hts _ zy_wALL) (hts _ zy_iW) eA hA
      · exact va_Zof (hts _ zy_wCOMP) (hts _ zy_iS) (va_eqt (zy_oth h).1) hA
      · exact va_Zref (hts _ zy_wFN) (hts _ zy_iW) (had 0 (by decide)) hA
      · exact va_Zref (hts _ zy_wELSE) (hts _ zy_iW) (had 2 (by decide)) hA
      · exact va_Zref (hts _ zy_wIN) (hts _ zy_iW) (had 5 (by decide)) hA
      · exact va_Zref (hts _ zy_wON) (hts _ zy_iW) (had 10 (by decide)) hA
      · exact va_Zref (hts _ zy_wBOX) (hts _ zy_iW) (had 16 (by decide)) hA
      · exact va_Zref (hts _ zy_wSUM) (hts _ zy_iW) (had 20 (by decide)) hA
      · exact va_Zref (hts _ zy_wMAX) (hts _ zy_iW) (had 21 (by decide)) hA
      · exact va_Zref (hts _ zy_wSORT) (hts _ zy_iW) (had 24 (by decide)) hA
      · exact va_Zref (hts _ zy_wEACH) (hts _ zy_iW) (had 39 (by decide)) hA
      · exact va_Zref (hts _ zy_wFOLD) (hts _ zy_iW) (had 40 (by decide)) hA
    · intro i j hi hi2 hj hj2 e
      have e : (if i = 0 then b else if i < 42 then ad (i - 1) else _) = (if j = 0 then b else if j < 42 then ad (j - 1) else _) := e
      rw [if_neg (by omega), if_pos (by omega), if_neg (by omega), if_pos (by omega)] at e
      have q1 := fC (i - 1) (by omega)
      have q2 := fC (j - 1) (by omega)
      rw [e] at q1
      have q3 := Value.long.inj (zy_ofu q1 q2)
      have := zy_code_inj (i - 1) (by omega) (j - 1) (by omega) q3
      omega
    · intro q hq
      simp only [zx_K, List.mem_cons, List.mem_nil_iff, or_false] at hq
      rcases hq with rfl | rfl | rfl
      · exact vk_R.of (A := #[Value.ref b]) (hts _ zy_r0) e0
      · exact vk_R.of (A := #[Value.ref b]) (hts _ zy_r1) e1
      · exact vk_R.of (A := #[Value.ref b]) (hts _ zy_r2) e2
    · exact vx_Zqof (hts _ zy_wUN) (hts _ zy_iT) (zy_oth h).2.1 hA
    · exact vx_Zqof (hts _ zy_wSU) (hts _ zy_iT) (zy_oth h).2.2 hA
end
-- ### 92a.pure.lean.txt
section
/-! ===== PURE: atoms (2): groups, literals ===== -/
section ATG
variable {N : Nat} {X : Nat → Option zz_C} {t t' : cS} {s s' s0 s1 s2 : mS} {b : Nat → Nat} {n p e i i0 op D D' : Nat} {code code1 code2 fl : List Ins} {vs : List (List Nat)} {cl : List Cn} {W W' : List Wt} {cu cu' : List Nat} {fs : Nat × Nat × Nat} {al : Int32} {rk : Nat → List Value → cS → kO} {Z : List (Nat × Nat)} {ah : Option (Nat × Nat)}
/-- ends1 of a group or of places -/
theorem PE.e1g {w : Wt} (h : PE b n p e i op D code code vs cl (W ++ [w]) cu fs t s) (hq : w.1 = 3 ∨ w.1 = 4) (hc2 : w.2.2.1 < 2000) : ∃ s1, PE b n p e i op D code code vs cl W cu fs t s1 ∧ FR p e t t s s1 ∧ slt s1 W.length (inc w) ∧ mf_288 N s = mo_bv (mf_267 N (Int32.ofNat (if w.1 = 3 then 41 else 93)) s1) (fun s2 => mf_288_67 N (Int32.ofNat W.length) (Int32.ofNat w.1) s2) := by
  have h5 := h.2.2.2.2.1
  obtain ⟨q0, q1, q2, q3, q4, q5, q6, q7⟩ := w_last h5
  obtain ⟨c1, c2⟩ := h.nc
  obtain ⟨hi, e5, e6, e7, hkk, ho, he, hlt, hll⟩ := c1.1.now
  obtain ⟨r0, r1, -⟩ := w_last c1.2.2.2.2.1
  have g1 := r_isSign (N := N) (c := 44) hkk (by decide) (by decide)
  obtain ⟨p1, p2, p3⟩ := c1.pop
  have hW8 : W.length < 80 := by omega
  have hst : mf_288 N s = mo_bi (mf_263 N (Int32.ofNat 44) (mA s 40 (upd (s.2.2.1 40) W.length (Int32.ofNat (w.2.2.1 + 1))))) (fun s1 y => mf_288_30 N (Int32.ofNat W.length) (Int32.ofNat w.1) y s1) := by
    unfold mf_288 mf_288_0
    simp (disch := omega) only [ev_S, ev_P, ↓reduceIte, Nat.reduceEqDiff, Nat.reduceLeDiff, Nat.reduceAdd, Nat.reduceMul, Nat.reduceSub, reduceCtorEq, l32_0, l32_1, l32_2, l32_3, l32_4, l32_5, l32_6, l32_7, l32_8, l32_9, l32_10, l32_11, l32_12, l32_13, l32_14, l32_15, l32_16, l32_17, l32_18, l32_19, l32_20, l32_21, l32_22, l32_23, l32_24, l32_25, l32_26, l32_27, l32_28, l32_29, l32_33, l32_40, l32_41, l32_44, l32_45, l32_59, l32_61, l32_91, l32_93, l32_123, l32_125, q0, q2, q4]
  generalize hS : mA s 40 (upd (s.2.2.1 40) W.length (Int32.ofNat (w.2.2.1 + 1))) = sn at *
  refine ⟨_, p1, c2.tr p2, p3, ?_⟩
  rw [hst, g1]
  rcases hq with z | z
  · rw [z]
    unfold mf_288_30 mf_288_41 mf_288_57 mf_288_64
    simp (disch := omega) only [ev_S, ev_P, ↓reduceIte, Nat.reduceEqDiff, Nat.reduceLeDiff, Nat.reduceAdd, Nat.reduceMul, Nat.reduceSub, reduceCtorEq, l32_0, l32_1, l32_2, l32_3, l32_4, l32_5, l32_6, l32_7, l32_8, l32_9, l32_10, l32_11, l32_12, l32_13, l32_14, l32_15, l32_16, l32_17, l32_18, l32_19, l32_20, l32_21, l32_22, l32_23, l32_24, l32_25, l32_26, l32_27, l32_28, l32_29, l32_33, l32_40, l32_41, l32_44, l32_45, l32_59, l32_61, l32_91, l32_93, l32_123, l32_125, r0]
  · rw [z]
    unfold mf_288_30 mf_288_36 mf_288_41 mf_288_62 mf_288_64
    simp (disch := omega) only [ev_S, ev_P, ↓reduceIte, Nat.reduceEqDiff, Nat.reduceLeDiff, Nat.reduceAdd, Nat.reduceMul, Nat.reduceSub, reduceCtorEq, l32_0, l32_1, l32_2, l32_3, l32_4, l32_5, l32_6, l32_7, l32_8, l32_9, l32_10, l32_11, l32_12, l32_13, l32_14, l32_15, l32_16, l32_17, l32_18, l32_19, l32_20, l32_21, l32_22, l32_23, l32_24, l32_25, l32_26, l32_27, l32_28, l32_29, l32_33, l32_40, l32_41, l32_44, l32_45, l32_59, l32_61, l32_91, l32_93, l32_123, l32_125, r0]
/-- what the class's fault and the reference's opens leave -/
theorem r_waitF {k a q : Nat} (h : PE b n p e i op D code code1 vs cl W cu fs t s) (f : fPs s s1) (hl : W.length < 80) (hk : k < 6) : ∃ s2, mf_281 N (Int32.ofNat k) (Int32.ofNat a) (Int32.ofNat q) s1 = some (s2, none) ∧ fQ e s1 s2 ∧ s2.1 9 = s1.1 9 ∧ s2.1 10 = s1.1 10 ∧ s2.1 28 = s1.1 28 := by
  obtain ⟨s2, a1, a2, a3⟩ := r_wait (N := N) (k := k) (a := a) (p := q) (h.2.2.2.2.1.keep (f.1 44 (by omega)) (fun q _ => f.2.2.1 q (fun z => z)) (f.2.2.2 42 (fun z => z))) hl hk
  exact ⟨s2, a1, fW.Q a3 ⟨_, a2⟩, a3.1 9 (by decide), a3.1 10 (by decide), a3.1 28 (by decide)⟩
theorem p_group {F : Nat} (hN : 170000 ≤ N) (hSX : SX N X b n p e F) (h : PE b n p e i op D code code vs cl W cu fs t s) (hwn : rWn s) (hD1 : 1 ≤ D) (hF : 10 * (10 - op) ≤ F) (hWl : W.length ≤ 6 * op + 5) (hk : ∀ hi : i < (TL b n).length, (TL b n)[i].1 = 40) : RS N b n p e i op D code W cu fs al t s (cf_190 N X (cf_S0 N X F) t) := by
  obtain ⟨hi, e5, e6, e7, hkk, ho, he, hlt, hll⟩ := h.1.now
  have hk := hk hi
  have h9 : s.1 9 = Int32.ofNat 0 := h.1.2.2.2.2.2.2.2.2.2
  have hop := h.1.2.2.2.1
  have hst := st_group hN h.1.2.2.2.2.2.2.2.1 hkk hk
  have hc5 : kI t 3 5 = Int32.ofNat 40 := by
    rw [e5]
    exact congrArg Int32.ofNat ((ck_sg (by decide)).mpr hk)
  have hC : cf_190 N X (cf_S0 N X F) t = cf_190_131 N X (cf_S0 N X F) t := by
    unfold cf_190 cf_190_0 cf_190_7 cf_190_15
    simp (disch := omega) only [ev_S, ev_C, ↓reduceIte, Nat.reduceEqDiff, Nat.reduceLeDiff, Nat.reduceAdd, Nat.reduceMul, Nat.reduceSub, reduceCtorEq, l32_0, l32_1, l32_2, l32_3, l32_4, l32_5, l32_6, l32_7, l32_8, l32_9, l32_10, l32_11, l32_12, l32_13, l32_14, l32_15, l32_16, l32_17, l32_18, l32_19, l32_20, l32_21, l32_22, l32_23, l32_24, l32_25, l32_26, l32_27, l32_28, l32_29, l32_33, l32_40, l32_41, l32_44, l32_45, l32_59, l32_61, l32_91, l32_93, l32_123, l32_125, c_placeNow, c_kindNow, hc5, e6]
  rw [hC]
  rcases h.opn (N := N) (X := X) (c := 40) hN (by omega) with ⟨t1, s1, a1, a2, a3, a4, a5, a6⟩ | ⟨t1, s1, a1, a2, a3, a4, a5⟩
  · obtain ⟨s2, b1, b2, b3⟩ := r_wait (N := N) (k := 3) (a := 0) (p := (TL b n)[i].2.2.2.1) a5.2.2.2.2.1 (by omega) (by decide)
    obtain ⟨c1, c2⟩ := a5.wt b2 b3
    have hLL : ∀ f, LL N (f + 1) al (Int32.ofNat 0) s = LL N f al (Int32.ofNat 0) s2 := fun f => by
      rw [LL_0 h9, hst]
      unfold mf_286_89 mf_286_95 mf_286_102
      simp (disch := omega) only [ev_S, ev_P, ↓reduceIte, Nat.reduceEqDiff, Nat.reduceLeDiff, Nat.reduceAdd, Nat.reduceMul, Nat.reduceSub, reduceCtorEq, l32_0, l32_1, l32_2, l32_3, l32_4, l32_5, l32_6, l32_7, l32_8, l32_9, l32_10, l32_11, l32_12, l32_13, l32_14, l32_15, l32_16, l32_17, l32_18, l32_19, l32_20, l32_21, l32_22, l32_23, l32_24, l32_25, l32_26, l32_27, l32_28, l32_29, l32_33, l32_40, l32_41, l32_44, l32_45, l32_59, l32_61, l32_91, l32_93, l32_123, l32_125, a2, b1]
    have w2 : rWn s2 := hwn.kp (a6.tr c2).2
    have hC2 : cf_190_131 N X (cf_S0 N X F) t = ko_call 5 (cf_S0 N X F 186 [.int (Int32.ofNat 0)] t1) (fun g1 v1 => co_v v1 (cf_190_142 N X (cf_S0 N X F) g1)) := by
      unfold cf_190_131 cf_190_137
      simp (disch := omega) only [ev_S, ev_C, ↓reduceIte, Nat.reduceEqDiff, Nat.reduceLeDiff, Nat.reduceAdd, Nat.reduceMul, Nat.reduceSub, reduceCtorEq, l32_0, l32_1, l32_2, l32_3, l32_4, l32_5, l32_6, l32_7, l32_8, l32_9, l32_10, l32_11, l32_12, l32_13, l32_14, l32_15, l32_16, l32_17, l32_18, l32_19, l32_20, l32_21, l32_22, l32_23, l32_24, l32_25, l32_26, l32_27, l32_28, l32_29, l32_33, l32_40, l32_41, l32_44, l32_45, l32_59, l32_61, l32_91, l32_93, l32_123, l32_125, a1]
    rw [hC2]
    have hne : al = 0 ∨ ¬ (W ++ [(3, 0, 0, (TL b n)[i].2.2.2.1, (0 : Int64), 0)]) = [] := Or.inr (by simp)
    rcases hSX 0 (i + 1) (op + 1) D code vs cl (W ++ [(3, 0, 0, (TL b n)[i].2.2.2.1, 0, 0)]) cu fs al t1 s2 (by decide) (c1.dn (by omega)) w2 (Or.inr ⟨W, _, rfl, Or.inl (by show 3 ≤ 3; omega)⟩) (by rw [List.length_append, List.length_singleton]; omega) hne (by omega) hD1 with ⟨t4, s4, k4, i4, seg4, code4, vs4, cl4, Z4, ah4, x1, x2, x3, x4, x5, x6, x7, x8, x9, x10⟩ | ⟨t4, s4, k4, x1, x2, x3, x4, x5⟩
    · obtain ⟨s5, d1, d2, d3⟩ := PE.flu (N := N) (al := al) hN x5 x6 x7 (fun z hh => ⟨(x8 z hh).1, (x8 z hh).2.2⟩) x9 (Or.inr ⟨W, _, rfl, Or.inl (by show 3 ≤ 3; omega)⟩) hne
      obtain ⟨s6, g1, g2, g3, g4⟩ := PE.e1g (N := N) d2 (Or.inl rfl) (by show 0 < 2000; omega)
      have hC3 : ∀ f, LL N (f + 1) al (Int32.ofNat 1) s4 = mo_bi (mo_bv (mf_267 N (Int32.ofNat 41) s6) (fun s2 => mf_288_67 N (Int32.ofNat W.length) (Int32.ofNat 3) s2)) (fun s1 y => LL N f al y s1) := fun f => by
        rw [d1 f, L215 d2.2.2.2.2.1, g4]
        rfl
      have hT : ∀ s7, mf_288_67 N (Int32.ofNat W.length) (Int32.ofNat 3) s7 = some (s7, some (.int (Int32.ofNat 1))) := fun s7 => by
        unfold mf_288_67 mf_288_87
        simp (disch := omega) only [ev_S, ev_P, ↓reduceIte, Nat.reduceEqDiff, Nat.reduceLeDiff, Nat.reduceAdd, Nat.reduceMul, Nat.reduceSub, reduceCtorEq, l32_0, l32_1, l32_2, l32_3, l32_4, l32_5, l32_6, l32_7, l32_8, l32_9, l32_10, l32_11, l32_12, l32_13, l32_14, l32_15, l32_16, l32_17, l32_18, l32_19, l32_20, l32_21, l32_22, l32_23, l32_24, l32_25, l32_26, l32_27, l32_28, l32_29, l32_33, l32_40, l32_41, l32_44, l32_45, l32_59, l32_61, l32_91, l32_93, l32_123, l32_125]
      have hall : FR p e t t4 s s6 := (a6.tr c2).tr (x10.tr (d3.tr g2))
      rw [x1]
      rcases g1.sgn (N := N) (X := X) (c := 41) hN (by omega) (fun _ => by omega) with ⟨t7, s7, y1, y2, y3, y4, y5, y6⟩ | ⟨t7, s7, y1, y2, y3, y4, y5⟩
      · refine Or.inl ⟨t7, s7, k4 + 2, i4 + 1, seg4, vs4, cl4, ?_, by omega, by omega, fun f => ?_, ?_, hall.tr y5⟩
        · show cf_190_142 N X (cf_S0 N X F) t4 = _
          unfold cf_190_142 cf_190_148 cf_190_176
          simp (disch := omega) only [ev_S, ev_C, ↓reduceIte, Nat.reduceEqDiff, Nat.reduceLeDiff, Nat.reduceAdd, Nat.reduceMul, Nat.reduceSub, reduceCtorEq, l32_0, l32_1, l32_2, l32_3, l32_4, l32_5, l32_6, l32_7, l32_8, l32_9, l32_10, l32_11, l32_12, l32_13, l32_14, l32_15, l32_16, l32_17, l32_18, l32_19, l32_20, l32_21, l32_22, l32_23, l32_24, l32_25, l32_26, l32_27, l32_28, l32_29, l32_33, l32_40, l32_41, l32_44, l32_45, l32_59, l32_61, l32_91, l32_93, l32_123, l32_125, y1]
        · rw [show f + (k4 + 2) = (f + 1 + k4) + 1 by omega, hLL, x4, hC3, y2]
          show mo_bi (mf_288_67 N (Int32.ofNat W.length) (Int32.ofNat 3) s7) _ = _
          rw [hT]
          rfl
        · rw [if_pos (by omega)] at y4
          exact y4.dn (by omega)
      · obtain ⟨x, y, v1, v2, v3, v4, v5, v6, v7⟩ := y3
        obtain ⟨hi4, -⟩ := x5.1.now
        refine Or.inr ⟨t7, s7, k4 + 3, ?_, by omega, fun f => ?_, ⟨x, y, v1, v2, v3, v4, v5, v6, v7⟩, hall.pre y4⟩
        · show cf_190_142 N X (cf_S0 N X F) t4 = _
          unfold cf_190_142
          simp (disch := omega) only [ev_S, ev_C, ↓reduceIte, Nat.reduceEqDiff, Nat.reduceLeDiff, Nat.reduceAdd, Nat.reduceMul, Nat.reduceSub, reduceCtorEq, l32_0, l32_1, l32_2, l32_3, l32_4, l32_5, l32_6, l32_7, l32_8, l32_9, l32_10, l32_11, l32_12, l32_13, l32_14, l32_15, l32_16, l32_17, l32_18, l32_19, l32_20, l32_21, l32_22, l32_23, l32_24, l32_25, l32_26, l32_27, l32_28, l32_29, l32_33, l32_40, l32_41, l32_44, l32_45, l32_59, l32_61, l32_91, l32_93, l32_123, l32_125, y1]
          rfl
        · rw [show f + (k4 + 3) = (f + 2 + k4) + 1 by omega, hLL, x4, show f + 2 = (f + 1) + 1 by omega, hC3, y2]
          show mo_bi (mf_288_67 N (Int32.ofNat W.length) (Int32.ofNat 3) s7) _ = _
          rw [hT]
          exact LL_f (N := N) v6 ⟨v1, v2⟩
    · refine Or.inr ⟨t4, s4, k4 + 1, by rw [x1]; rfl, by omega, fun f => ?_, x4, (a6.tr c2).pre x5⟩
      rw [← Nat.add_assoc, hLL]
      exact x3 f
  · obtain ⟨x, y, v1, v2, v3, v4, v5, v6, v7⟩ := a3
    obtain ⟨s2, b1, b2, b3, b4, b5⟩ := r_waitF (N := N) (k := 3) (a := 0) (q := (TL b n)[i].2.2.2.1) h a5 (by omega) (by decide)
    refine Or.inr ⟨t1, s2, 2, ?_, by omega, fun f => ?_, pF.post ⟨x, y, v1, v2, v3, v4, v5, v6, v7⟩ b3 b4, a4.post b2 (a4.2.2.1.kp b5)⟩
    · unfold cf_190_131
      simp (disch := omega) only [ev_S, ev_C, ↓reduceIte, Nat.reduceEqDiff, Nat.reduceLeDiff, Nat.reduceAdd, Nat.reduceMul, Nat.reduceSub, reduceCtorEq, l32_0, l32_1, l32_2, l32_3, l32_4, l32_5, l32_6, l32_7, l32_8, l32_9, l32_10, l32_11, l32_12, l32_13, l32_14, l32_15, l32_16, l32_17, l32_18, l32_19, l32_20, l32_21, l32_22, l32_23, l32_24, l32_25, l32_26, l32_27, l32_28, l32_29, l32_33, l32_40, l32_41, l32_44, l32_45, l32_59, l32_61, l32_91, l32_93, l32_123, l32_125, a1]
      rfl
    · rw [show f + 2 = (f + 1) + 1 by omega, LL_0 h9, hst]
      unfold mf_286_89 mf_286_95 mf_286_102
      simp (disch := omega) only [ev_S, ev_P, ↓reduceIte, Nat.reduceEqDiff, Nat.reduceLeDiff, Nat.reduceAdd, Nat.reduceMul, Nat.reduceSub, reduceCtorEq, l32_0, l32_1, l32_2, l32_3, l32_4, l32_5, l32_6, l32_7, l32_8, l32_9, l32_10, l32_11, l32_12, l32_13, l32_14, l32_15, l32_16, l32_17, l32_18, l32_19, l32_20, l32_21, l32_22, l32_23, l32_24, l32_25, l32_26, l32_27, l32_28, l32_29, l32_33, l32_40, l32_41, l32_44, l32_45, l32_59, l32_61, l32_91, l32_93, l32_123, l32_125, a2, b1]
      exact LL_f (N := N) (b3.trans v6) ⟨v1, v2⟩
end ATG
end
