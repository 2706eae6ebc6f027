/-! ===== PURE: the whole (1): what stands between calls ===== -/
/-- what is left alone, as far as other things ask -/
def kfO (eI : Nat → Nat → Prop) (eA : Nat → Prop) (t t' : cS) : Prop := (∀ k f, ¬ eI k f → kI t' k f = kI t k f) ∧ ∀ k, k < 2000000 → ¬ eA k → k ≠ 111 → kA t' k = kA t k ∧ kB t' k = kB t k
/-- programs, faults -/
def O1 (t : cS) (s : mS) (p p' e : Nat) : Prop := iF t s ∧ LI t s p p' e ∧ PGI t s p e ∧ (s.1 13 = 0 → s.1 14 = 0)
/-- the room -/
def rmQ (n : Nat) (t : cS) (σ0 : Nat) : Prop := kN t ≤ 111 + 40 * (512 - n) + (pot t + potL t + gA t σ0) ∧ kQ t ≤ 400000 + 9700 * (512 - n) + (poq t + poqL t + 2 * gA t σ0)
def InvR (n : Nat) (t : cS) (s : mS) : Prop := n ≤ 512 ∧ ∃ (S : Nat → Option (Th 4)) (σ0 k : Nat) (μ : Nat → Nat) (p p' e : Nat) (l : List Int32), (iA t s ∧ O1 t s p p' e) ∧ iT t s ∧ iS S σ0 k μ t s ∧ (cOut t l ∧ rOut s l ∧ l.length ≤ 200000000 + 9000 * (512 - n)) ∧ (iH t ∧ mOK t) ∧ rmQ n t σ0
section INV
variable {eI : Nat → Nat → Prop} {eA mI mL mA mB : Nat → Prop} {t t' : cS} {s s' : mS} {p p' e σ0 k n : Nat} {μ : Nat → Nat} {S : Nat → Option (Th 4)} {l : List Int32}
theorem iA.kp0 (h : iA t s) (g : kfO eI eA t t') (m : mfr mI mL mA mB s s') (h1 : ¬ eI 0 1) (h2 : ¬ eA 1) (h3 : ¬ mI 3) (h4 : ¬ mA 2) : iA t' s' := by
  obtain ⟨n, L, ⟨b1, b2, b3, b4, b5⟩, h⟩ := h
  have e := (g.2 1 (by omega) h2 (by omega)).1
  exact ⟨n, L, ⟨by rw [g.1 0 1 h1]; exact b1, by rw [m.1 3 h3]; exact b2, by rw [e]; exact b3, fun i hi => by rw [e, m.2.2.1 2 h4]; exact b4 i hi, fun i => by rw [e]; exact b5 i⟩, h⟩
theorem iT.kp0 (h : iT t s) (g : kfO eI eA t t') (m : mfr mI mL mA mB s s') (h1 : ∀ f, ¬ eI 48 f) (h2 : ∀ q, 60 ≤ q → q ≤ 68 → ¬ mI q) : iT t' s' := by
  unfold iT at h ⊢
  rw [g.1 48 0 (h1 0), g.1 48 6 (h1 6), g.1 48 7 (h1 7), g.1 48 8 (h1 8), g.1 48 2 (h1 2), g.1 48 3 (h1 3), g.1 48 4 (h1 4), g.1 48 5 (h1 5), m.1 68 (h2 68 (by omega) (by omega)), m.1 66 (h2 66 (by omega) (by omega)), m.1 67 (h2 67 (by omega) (by omega)), m.1 65 (h2 65 (by omega) (by omega)), m.1 60 (h2 60 (by omega) (by omega)), m.1 62 (h2 62 (by omega) (by omega)), m.1 63 (h2 63 (by omega) (by omega)), m.1 64 (h2 64 (by omega) (by omega))]
  exact h
theorem SZf.kp0 {q : Nat} (h : SZf q t) (hq : q = 12 ∨ q = 21) (g : kfO eI eA t t') (h1 : ∀ k, 4 ≤ k → k ≤ 29 → ¬ eA k) : SZf q t' := by
  have e := fun k a b => g.2 k (by omega) (h1 k a b) (by omega)
  unfold SZf SZ at h ⊢
  rw [(e 4 (by omega) (by omega)).1, (e 5 (by omega) (by omega)).1, (e 6 (by omega) (by omega)).2, (e 8 (by omega) (by omega)).1, (e 9 (by omega) (by omega)).2, (e 10 (by omega) (by omega)).1, (e 11 (by omega) (by omega)).1, (e 7 (by omega) (by omega)).2, (e (q + 1) (by omega) (by omega)).1, (e (q + 2) (by omega) (by omega)).1, (e (q + 3) (by omega) (by omega)).1, (e (q + 4) (by omega) (by omega)).2, (e (q + 5) (by omega) (by omega)).1, (e (q + 6) (by omega) (by omega)).1, (e (q + 7) (by omega) (by omega)).1, (e (q + 8) (by omega) (by omega)).1]
  exact h
theorem O1.kp0 (h : O1 t s p p' e) (hP : kP t' 0 3 = kP t 0 3 ∧ kP t' 0 4 = kP t 0 4) (g : kfO eI eA t t') (m : mfr mI mL mA mB s s') (h1 : ¬ eI 0 5 ∧ ¬ eI 0 6) (h2 : ∀ f, ¬ eI 12 f ∧ ¬ eI 21 f) (h3 : ∀ k, 4 ≤ k → k ≤ 29 → ¬ eA k) (h4 : ∀ q, q = 12 ∨ q = 13 ∨ q = 14 ∨ q = 44 ∨ q = 45 ∨ q = 46 → ¬ mI q) (h5 : ∀ q, q = 1 ∨ (17 ≤ q ∧ q ≤ 43) → ¬ mA q) (h6 : ∀ q, ¬ mB q) : O1 t' s' p p' e := by
  obtain ⟨⟨f1, f2⟩, ⟨l1, l2, l3, l4, l5, l6, l7, l8, l9, l10⟩, hG, h13⟩ := h
  have hpp : p = 12 ∨ p = 21 := by omega
  refine ⟨⟨?_, ?_⟩, ⟨by rw [hP.1]; exact l1, by rw [hP.2]; exact l2, l3, l4.kp0 (Or.inl rfl) g h3, l5.kp0 (Or.inr rfl) g h3, fun w hw => by rw [m.2.2.2 0 (h6 0)]; exact l6 w hw, fun w hw => by rw [m.2.2.1 1 (h5 1 (Or.inl rfl))]; exact l7 w hw, Kd.kp (m.1 44 (h4 44 (by omega))) (fun q hq => m.2.2.1 q (h5 q (by omega))) (m.2.2.2 42 (h6 42)) l8, by rw [m.1 12 (h4 12 (by omega))]; exact l9, l10⟩, hG.kp hP.1 (fun f => g.1 p f (by rcases hpp with z | z <;> subst z; exact (h2 f).1; exact (h2 f).2)) (fun j j1 j2 => g.2 (p + j) (by omega) (h3 (p + j) (by omega) (by omega)) (by omega)) (m.1 12 (h4 12 (by omega))) (m.1 14 (h4 14 (by omega))) (fun q y r _ _ => by rw [m.2.2.1 q (h5 q (by omega))]) (fun q y r _ _ => by rw [m.2.2.1 q (h5 q (by omega))]), ?_⟩
  · rw [g.1 0 5 h1.1, m.1 45 (h4 45 (by omega))]; exact f1
  · rw [g.1 0 6 h1.2, m.1 46 (h4 46 (by omega))]; exact f2
  · rw [m.1 13 (h4 13 (by omega)), m.1 14 (h4 14 (by omega))]; exact h13
theorem rmK_of (h : kN t + 200 < zz_out) (h46 : (kA t 46).1 ≤ 600) : rmK t := ⟨by omega, h46⟩
theorem cOut.kp0 (h : cOut t l) (g : kfO eI eA t t') (h1 : ¬ eI 45 1) (h2 : ¬ eA 46 ∧ ¬ eA 47) (hN : kN t' + 200 < zz_out) : cOut t' l := by
  have e46 := (g.2 46 (by omega) h2.1 (by omega)).1
  have e47 := (g.2 47 (by omega) h2.2 (by omega)).1
  obtain ⟨z1, z2, z3, z4, z5, z6, z7⟩ := h
  exact ⟨by rw [g.1 45 1 h1]; exact z1, by rw [e46]; exact z2, by rw [e46]; exact z3, by rw [e46]; exact z4, by rw [e46]; exact z5, by rw [e47]; exact z6, rmK_of hN (by rw [e46]; exact z7.2)⟩
theorem rOut.kp0 (h : rOut s l) (m : mfr mI mL mA mB s s') (h1 : ¬ mI 87) (h2 : ¬ mA 86) : rOut s' l := by
  unfold rOut at h ⊢
  rw [m.1 87 h1, m.2.2.1 86 h2]
  exact h
theorem iH.kp0 (h : iH t) (g : kfO eI eA t t') (h2 : ¬ eA 43 ∧ ¬ eA 44 ∧ ¬ eA 46) (hN : kN t' + 200 < zz_out) : iH t' := by
  have e43 := (g.2 43 (by omega) h2.1 (by omega)).2
  have e44 := (g.2 44 (by omega) h2.2.1 (by omega)).2
  have e46 := (g.2 46 (by omega) h2.2.2 (by omega)).1
  obtain ⟨q1, q2, q3, q4, q5⟩ := h
  exact ⟨by rw [e44]; exact q1, by rw [e43]; exact q2, by rw [e43]; exact q3, by rw [e44]; exact q4, rmK_of hN (by rw [e46]; exact q5.2)⟩
theorem mOK.kp0 (h : mOK t) (g : kfO eI eA t t') (h2 : ∀ k, 50 ≤ k → k ≤ 60 → ¬ eA k) : mOK t' := by
  have e := fun k a b => g.2 k (by omega) (h2 k a b) (by omega)
  unfold mOK at h ⊢
  rw [(e 53 (by omega) (by omega)).1, (e 54 (by omega) (by omega)).1, (e 50 (by omega) (by omega)).2, (e 51 (by omega) (by omega)).1, (e 60 (by omega) (by omega)).1, (e 52 (by omega) (by omega)).2, (e 55 (by omega) (by omega)).1, (e 56 (by omega) (by omega)).1, (e 57 (by omega) (by omega)).1]
  exact h
/-- the potentials -/
theorem pot.kp0 (g : kfO eI eA t t') (h2 : ∀ k, 43 ≤ k → k ≤ 60 → ¬ eA k) : pot t' = pot t ∧ poq t' = poq t := by
  have e := fun q a b => g.2 q (by omega) (h2 q a b) (by omega)
  unfold Jvm.Pilot.CTallySlateLaw_law_r9425_93dbe7.pot Jvm.Pilot.CTallySlateLaw_law_r9425_93dbe7.poq
  rw [(e 43 (by omega) (by omega)).2, (e 44 (by omega) (by omega)).2, (e 46 (by omega) (by omega)).1, (e 52 (by omega) (by omega)).2, (e 55 (by omega) (by omega)).1, (e 56 (by omega) (by omega)).1, (e 57 (by omega) (by omega)).1]
  exact ⟨rfl, rfl⟩
theorem potL.kp0 (g : kfO eI eA t t') (h2 : ∀ k, 4 ≤ k → k ≤ 24 → ¬ eA k) : potL t' = potL t ∧ poqL t' = poqL t := by
  have e := fun q a b => g.2 q (by omega) (h2 q a b) (by omega)
  unfold Jvm.Pilot.CTallySlateLaw_law_r9425_93dbe7.potL Jvm.Pilot.CTallySlateLaw_law_r9425_93dbe7.poqL
  rw [(e 4 (by omega) (by omega)).1, (e 5 (by omega) (by omega)).1, (e 6 (by omega) (by omega)).2, (e 8 (by omega) (by omega)).1, (e 9 (by omega) (by omega)).2, (e 10 (by omega) (by omega)).1, (e 11 (by omega) (by omega)).1, (e 13 (by omega) (by omega)).1, (e 14 (by omega) (by omega)).1, (e 15 (by omega) (by omega)).1, (e 22 (by omega) (by omega)).1, (e 23 (by omega) (by omega)).1, (e 24 (by omega) (by omega)).1]
  exact ⟨rfl, rfl⟩
/-- rows of shelves that stand -/
theorem gS_eq {σ : Nat} (h : ∀ j, j < 8 → kA t' (2000000 + 20 * σ + 1 + 1 + j) = kA t (2000000 + 20 * σ + 1 + 1 + j)) : gS t' σ = gS t σ := by
  unfold gS
  refine sm_congr (fun i _ h2 => ?_)
  show (kA t' (2000000 + 20 * σ + 1 + 1 + i)).1 = (kA t (2000000 + 20 * σ + 1 + 1 + i)).1
  rw [h i (by omega)]
theorem gA_ch (hM : kM t' = kM t) (h : ∀ m, m < 6 → ∀ σ, kM t m = some σ → gS t' σ = gS t σ) : gA t' σ0 + gS t σ0 = gA t σ0 + gS t' σ0 := by
  unfold gA
  have e : sm (fun m => gO t' (kM t' m)) 0 6 = sm (fun m => gO t (kM t m)) 0 6 := by
    refine sm_congr (fun i _ h2 => ?_)
    show gO t' (kM t' i) = gO t (kM t i)
    rw [hM]
    cases hk : kM t i with
    | none => rfl
    | some σ => exact h i (by omega) σ hk
  rw [e]
  omega
theorem gA_eq (hM : kM t' = kM t) (h : ∀ k, 2000000 ≤ k → kA t' k = kA t k) : gA t' σ0 = gA t σ0 := by
  have h1 := gA_ch (t := t) (t' := t') (σ0 := σ0) hM (fun m _ σ _ => gS_eq (fun j hj => h _ (by omega)))
  have h2 : gS t' σ0 = gS t σ0 := gS_eq (fun j hj => h _ (by omega))
  omega
theorem gA_le (h : iS S σ0 k μ t s) : gA t σ0 ≤ 168000 := by
  have h0 := gS_le h.2.2.2.2.1.1
  have key : ∀ c, c ≤ 6 → sm (fun m => gO t (kM t m)) 0 c ≤ 24000 * c := by
    intro c
    induction c with
    | zero => intro _; exact Nat.le_refl _
    | succ c ih =>
      intro hc
      have h1 := ih (by omega)
      show sm _ 0 c + gO t (kM t (0 + c)) ≤ _
      have h2 : gO t (kM t (0 + c)) ≤ 24000 := by
        cases hk : kM t (0 + c) with
        | none => exact Nat.zero_le _
        | some σ => exact gS_le (h.2.2.2.2.2.2.2.1 (0 + c) (by omega) σ hk).1.1
      omega
  have := key 6 (Nat.le_refl _)
  unfold gA
  omega
theorem potL_le : potL t ≤ 247 := by
  unfold potL
  have a1 := lgc_le (kA t 4).1
  have a2 := lgc_le (kA t 5).1
  have a3 := lgc_le (kB t 6).1
  have a4 := lgc_le (kA t 8).1
  have a5 := lgc_le (kB t 9).1
  have a6 := lgc_le (kA t 10).1
  have a7 := lgc_le (kA t 11).1
  have a8 := lgc_le (kA t 13).1
  have a9 := lgc_le (kA t 14).1
  have b1 := lgc_le (kA t 15).1
  have b2 := lgc_le (kA t 22).1
  have b3 := lgc_le (kA t 23).1
  have b4 := lgc_le (kA t 24).1
  omega
/-- there is room -/
theorem InvR.bd (h : InvR n t s) : kN t ≤ 600000 ∧ kQ t ≤ 7290000 := by
  obtain ⟨hn, S, σ0, k, μ, p, p', e, l, ⟨-, -, hL, -⟩, -, hS, -, ⟨hH, hM⟩, r1, r2⟩ := h
  have h1 := gA_le hS
  have h2 := pot_le (t := t) hH.2.2.2.2.2
  have h3 := potL_le (t := t)
  have h46 : (kA t 46).1 ≤ 600 := hH.2.2.2.2.2
  obtain ⟨q1, q2, q3, q4, -⟩ := hH
  obtain ⟨-, ⟨-, m2⟩, m3, m4, -, m5⟩ := hM
  have hq : poq t ≤ 1060000 := by
    unfold poq
    omega
  obtain ⟨-, -, -, ⟨⟨z1, z2, z3, -⟩, -⟩, ⟨⟨-, -, z4, -⟩, -⟩, -⟩ := hL
  have hql : poqL t ≤ 338000 := by
    unfold poqL
    obtain ⟨y1, y2, y3, y4⟩ := z1
    obtain ⟨y5, y6, y7, y8, y9⟩ := z2
    obtain ⟨x1, x2, x3, x4⟩ := z3
    obtain ⟨w1, w2, w3, w4⟩ := z4
    have x1 : (kA t 14).1 = (kA t 13).1 := x1
    have x2 : (kA t 15).1 = (kA t 13).1 := x2
    have x4 : (kA t 13).1 < 13000 := x4
    have w1 : (kA t 23).1 = (kA t 22).1 := w1
    have w2 : (kA t 24).1 = (kA t 22).1 := w2
    have w4 : (kA t 22).1 < 13000 := w4
    omega
  have e1 : 40 * (512 - n) ≤ 20480 := by omega
  have e2 : 9700 * (512 - n) ≤ 4966400 := by omega
  exact ⟨by omega, by omega⟩
/-- a call that changes nothing -/
theorem InvR.dn (h : InvR (n + 1) t s) : InvR n t s := by
  obtain ⟨hn, S, σ0, k, μ, p, p', e, l, h1, h2, h3, ⟨h4, h5, h6⟩, h7, r1, r2⟩ := h
  refine ⟨by omega, S, σ0, k, μ, p, p', e, l, h1, h2, h3, ⟨h4, h5, by omega⟩, h7, ?_, ?_⟩
  · omega
  · omega
theorem iG_of (h : PGI t s p e) : ∃ m, iG t s p e m := by
  obtain ⟨code, Fs, ⟨g1, g2, g3, g4, g5⟩, g6, ⟨c1, c2, c3, c4, c5, c6, c7, c8, c9⟩, g8, g9, g10⟩ := h
  refine ⟨Fs.length, g1, g2, c1, g5, c2, g3, g4, c6, c7, c8, fun f hf => ?_⟩
  obtain ⟨d1, d2, d3, d4, d5⟩ := c9 f hf
  obtain ⟨r1, r2, r3, r4⟩ := g9 f hf
  have efb : fb0 (1 - e) + f = 12 * e + f := by unfold fb0; omega
  rw [efb] at r2 r3 r4
  exact ⟨d3.trans r2.symm, d4.trans r3.symm, d5.trans r4.symm⟩
theorem iO_of (h1 : cOut t l) (h2 : rOut s l) (hl : l.length < 2147483648) : iO t s := by
  obtain ⟨z1, z2, z3, z4, z5, z6, z7⟩ := h1
  exact ⟨l.length, hl, h2.1, z1, fun i hi h6 => (z2 i hi h6).trans (h2.2 i hi h6).symm, by omega, z7.2⟩
end INV
