/-! ===== PURE: the whole (2): every call ===== -/
section STP
variable {N : Nat} {X : Nat → Option zz_C} {eI : Nat → Nat → Prop} {eA mI mL mA mB cA cB : Nat → Prop} {t t' : cS} {s s' : mS} {p p' e σ0 k n j c : Nat} {μ : Nat → Nat} {S : Nat → Option (Th 4)} {l : List Int32} {a1 a2 a3 a4 a5 : Int32}
theorem zo : zz_out = 1048576 := rfl
theorem kfr.O (h : kfr eI cA cB t t') : kfO eI (fun k => cA k ∨ cB k) t t' := ⟨h.1, fun k _ r1 r2 => ⟨h.2.2.2.1 k (fun q => r1 (Or.inl q)) r2, h.2.2.2.2.1 k (fun q => r1 (Or.inr q)) r2⟩⟩
theorem gf.O {E : Nat → Nat → Prop} {A : Nat → Prop} (h : gf E A t t') : kfO E A t t' := ⟨h.1, fun k _ r1 r2 => ⟨(h.2.2.2.1 k r1 r2).1, (h.2.2.2.1 k r1 r2).2.1⟩⟩
theorem lfr.O (h : lfr t t') : kfO (fun k f => 2000000 ≤ k ∨ (k = 0 ∧ f = 9)) (fun _ => False) t t' := ⟨fun k f r => h.1 k f (by omega) (fun q => r (Or.inr q)), fun k hk _ r2 => ⟨h.2.2.2.1 k hk r2, h.2.2.2.2.1 k hk r2⟩⟩
theorem iS.kf (h : iS S σ0 k μ t s) (h1 : kP t' 0 7 = kP t 0 7) (h2 : kI t' 0 9 = kI t 0 9) (hM : kM t' = kM t) (hH : kH t' = kH t) (hN : kN t ≤ kN t') (hA : ∀ k, 2000000 ≤ k → kA t' k = kA t k) (e1 : s'.1 88 = s.1 88) (e2 : s'.2.2.1 47 = s.2.2.1 47) : iS S σ0 k μ t' s' := by
  obtain ⟨i1, i2, i3, i4, ⟨i5, i50⟩, i6, i7, i8, i9⟩ := h
  have s0 : ∀ {σ}, cS0 t σ → cS0 t' σ := fun q => ⟨by rw [hH]; exact q.1, by rw [hA _ (by omega)]; exact q.2.1, fun j hj => by rw [hA _ (by omega)]; exact q.2.2 j hj⟩
  have s1 : ∀ {σ j ξ}, cS1 t σ j ξ → cS1 t' σ j ξ := fun {σ j ξ} q => by
    unfold cS1 at q ⊢
    rw [hA (2000000 + 20 * σ + 10) (by omega), hA (2000000 + 20 * σ + 1 + 1 + j) (by omega)]
    exact q
  refine ⟨i1, by rw [h1]; exact i2, by rw [h2]; exact i3, by rw [e1]; exact i4, ⟨s0 i5, by omega⟩, fun j hj => ⟨s1 (i6 j hj).1, by rw [e2]; exact (i6 j hj).2⟩, i7, fun m hm σ q => ?_, fun m hm => ?_⟩
  · rw [hM] at q
    obtain ⟨⟨b1, b2⟩, b3, b4⟩ := i8 m hm σ q
    exact ⟨⟨s0 b1, by omega⟩, b3, fun m' σ' hm' q' => by rw [hM] at q'; exact b4 m' σ' hm' q'⟩
  · obtain ⟨b1, b2⟩ := i9 m hm
    exact ⟨by rw [hM]; exact b1, fun j hj => ⟨s1 (b2 j hj).1, by rw [e2]; exact (b2 j hj).2⟩⟩
/-- one shelf's row has grown -/
theorem fSh.gA (h : iS S σ0 k μ t s) (f : fSh σ0 j t t') (r : rSh σ0 j c t t') (hj : j < 8) : gA t σ0 ≤ gA t' σ0 ∧ kN t' ≤ kN t + c ∧ kQ t' + 2 * gA t σ0 ≤ kQ t + 2 * gA t' σ0 := by
  obtain ⟨⟨k1, k2, k3, k4, k5, k6, k7, k8⟩, -, -⟩ := f
  obtain ⟨r1, r2, r3⟩ := r
  have e : gS t' σ0 + (kA t (2000000 + 20 * σ0 + 1 + 1 + j)).1 = gS t σ0 + (kA t' (2000000 + 20 * σ0 + 1 + 1 + j)).1 := by
    unfold gS
    exact sm_one (f := fun j => (kA t (2000000 + 20 * σ0 + 1 + 1 + j)).1) (g := fun j => (kA t' (2000000 + 20 * σ0 + 1 + 1 + j)).1) hj (fun i h8 hi => by
      show (kA t' (2000000 + 20 * σ0 + 1 + 1 + i)).1 = (kA t (2000000 + 20 * σ0 + 1 + 1 + i)).1
      rw [k4 _ (by omega) (by omega)])
  have g := gA_ch (t := t) (t' := t') (σ0 := σ0) k6 (fun m hm σ q => by
    have hne := (h.2.2.2.2.2.2.2.1 m hm σ q).2.1
    exact gS_eq (fun i hi => k4 _ (by omega) (by omega)))
  exact ⟨by omega, r1, by omega⟩
theorem InvR.shelf {S' : Nat → Option (Th 4)} (hn : n + 1 ≤ 512) (hA : iA t s) (hO1 : O1 t s p p' e) (hT : iT t s) (hS : iS S σ0 k μ t s) (hc' : cOut t l) (hr : rOut s l) (hl : l.length ≤ 200000000 + 9000 * (512 - (n + 1))) (hH : iH t) (hM : mOK t) (hq : rmQ (n + 1) t σ0) (hkN : kN t ≤ 600000) (hc : c ≤ 3) (hS' : iS S' σ0 k μ t' s') (hf : t' = t ∨ ∃ j, j < 8 ∧ fSh σ0 j t t' ∧ rSh σ0 j c t t') (hm : mfr (fun _ => False) (fun _ => False) (fun q => q = 47) (fun _ => False) s s') : InvR n t' s' := by
  obtain ⟨r1, r2⟩ := hq
  have key : ∃ eI : Nat → Nat → Prop, ∃ eA : Nat → Prop, kfO eI eA t t' ∧ (∀ k f, ¬ eI k f) ∧ (∀ k, k < 2000000 → ¬ eA k) ∧ kP t' = kP t ∧ gA t σ0 ≤ gA t' σ0 ∧ kN t' ≤ kN t + 3 ∧ kQ t' + 2 * gA t σ0 ≤ kQ t + 2 * gA t' σ0 := by
    rcases hf with e | ⟨j, hj, f, r⟩
    · subst e
      exact ⟨fun _ _ => False, fun _ => False, ⟨fun _ _ _ => rfl, fun _ _ _ _ => ⟨rfl, rfl⟩⟩, fun _ _ q => q, fun _ _ q => q, rfl, Nat.le_refl _, by omega, Nat.le_refl _⟩
    · obtain ⟨g1, g2, g3⟩ := fSh.gA hS f r hj
      exact ⟨_, _, f.1.O, fun _ _ q => q, fun k hk q => by omega, f.1.2.2.1, g1, by omega, g3⟩
  obtain ⟨eI, eA, g, hE, hA2, hP, g1, g2, g3⟩ := key
  have z := zo
  have hN' : kN t' + 200 < zz_out := by omega
  obtain ⟨p1, p2⟩ := pot.kp0 g (fun k _ _ => hA2 k (by omega))
  obtain ⟨p3, p4⟩ := potL.kp0 g (fun k _ _ => hA2 k (by omega))
  refine ⟨by omega, S', σ0, k, μ, p, p', e, l, ⟨hA.kp0 g hm (hE _ _) (hA2 _ (by omega)) (fun q => q) (by decide), hO1.kp0 ⟨by rw [hP], by rw [hP]⟩ g hm ⟨hE _ _, hE _ _⟩ (fun f => ⟨hE _ _, hE _ _⟩) (fun k _ _ => hA2 k (by omega)) (fun q _ z => z) (fun q r z => by omega) (fun q z => z)⟩, hT.kp0 g hm (fun f => hE _ _) (fun q _ _ z => z), hS', ⟨hc'.kp0 g (hE _ _) ⟨hA2 _ (by omega), hA2 _ (by omega)⟩ hN', hr.kp0 hm (fun z => z) (by decide), by omega⟩, ⟨hH.kp0 g ⟨hA2 _ (by omega), hA2 _ (by omega), hA2 _ (by omega)⟩ hN', hM.kp0 g (fun k _ _ => hA2 k (by omega))⟩, ?_, ?_⟩
  · rw [p1, p3]; omega
  · rw [p2, p4]; omega
theorem lw_step (hN : 700000 ≤ N) (hX : oX N X) (hY : oY X) (hZ : oZ X) (hI : InvR (n + 1) t s) (o : Nat) : ∃ t' s', lwC N X o a1 a2 a3 a4 a5 t s t' s' ∧ InvR n t' s' := by
  have hI' := hI
  obtain ⟨hkN, hkQ⟩ := hI.bd
  have z := zo
  obtain ⟨hn, S, σ0, k, μ, p, p', e, l, ⟨hA, hO1⟩, hT, hS, ⟨hc, hr, hl⟩, ⟨hH, hM⟩, hq⟩ := hI'
  have hq' := hq
  obtain ⟨r1, r2⟩ := hq'
  match o with
  | 0 =>
    obtain ⟨t', s', v, q1, q2, q3, q4, q5, q6, q7⟩ := p_feed (N := N) (X := X) hA (by omega) (by omega) a1 a2 a3 a4 a5
    have g := q4.O
    have hP : kP t' = kP t := q4.2.2.1
    have eM : kM t' = kM t := q4.2.2.2.2.2.1
    have eH : kH t' = kH t := q4.2.2.2.2.2.2.1
    have eN : kN t ≤ kN t' := q4.2.2.2.2.2.2.2
    have eg : gA t' σ0 = gA t σ0 := gA_eq eM (fun k hk => q4.2.2.2.1 k (by omega) (by omega))
    obtain ⟨p1, p2⟩ := pot.kp0 g (fun k _ _ q => by omega)
    obtain ⟨p3, p4⟩ := potL.kp0 g (fun k _ _ q => by omega)
    refine ⟨t', s', ⟨v, q1, q2⟩, by omega, S, σ0, k, μ, p, p', e, l, ⟨q3, hO1.kp0 ⟨by rw [hP], by rw [hP]⟩ g q5 ⟨by omega, by omega⟩ (fun f => ⟨by omega, by omega⟩) (fun k _ _ q => by omega) (fun q _ z => by omega) (fun q _ z => by omega) (fun q z => z)⟩, hT.kp0 g q5 (fun f => by omega) (fun q _ _ z => by omega), hS.kf (by rw [hP]) (q4.1 0 9 (by omega)) eM eH eN (fun k hk => q4.2.2.2.1 k (by omega) (by omega)) (q5.1 88 (by omega)) (q5.2.2.1 47 (by omega)), ⟨hc.kp0 g (by omega) ⟨by omega, by omega⟩ (by omega), hr.kp0 q5 (by omega) (by omega), by omega⟩, ⟨hH.kp0 g ⟨by omega, by omega, by omega⟩ (by omega), hM.kp0 g (fun k _ _ q => by omega)⟩, ?_, ?_⟩
    · rw [p1, p3, eg]; omega
    · rw [p2, p4, eg]; omega
  | 1 =>
    have hrm : rmG t := by
      show kN t + 400 < zz_out + potL t
      omega
    obtain ⟨t', s', v, p1', p2', e1, q1, q2, q3, q4, q5, q6, q7, q8, q9⟩ := p_load (N := N) (X := X) (a := a1) (by omega) hX hY hZ hA hO1.2.1 hO1.2.2.1 hO1.1 hrm
    obtain ⟨w1, w2, w3, w4, w5, w6, w7, w8⟩ := q7
    obtain ⟨m1, m2, m3, m4⟩ := q8
    have g : kfO (fun k f => (k = 0 ∧ (f = 1 ∨ f = 5 ∨ f = 6)) ∨ k = 2 ∨ k = 3 ∨ k = 12 ∨ k = 21) (fun k => 4 ≤ k ∧ k ≤ 29) t t' := ⟨fun k f r => w1 k f r, fun k _ r1 r2 => ⟨(w3 k r1 r2).1, (w3 k r1 r2).2.1⟩⟩
    have m : mfr (fun q => q = 3 ∨ q = 4 ∨ q = 5 ∨ q = 6 ∨ q = 8 ∨ q = 9 ∨ q = 10 ∨ q = 11 ∨ q = 12 ∨ q = 13 ∨ q = 14 ∨ q = 15 ∨ q = 22 ∨ q = 28 ∨ q = 29 ∨ q = 37 ∨ q = 44 ∨ q = 45 ∨ q = 46) (fun q => q = 7) (fun q => 17 ≤ q ∧ q ≤ 43) (fun q => q = 16 ∨ q = 21 ∨ q = 33 ∨ q = 42) s s' := ⟨m1, m2, m3, m4⟩
    have eg : gA t' σ0 = gA t σ0 := gA_eq w4 (fun k hk => (w3 k (by omega) (by omega)).1)
    obtain ⟨p1, p2⟩ := pot.kp0 g (fun k _ _ q => by omega)
    have hkN' : kN t' + 200 < zz_out := by
      have := potL_le (t := t')
      omega
    refine ⟨t', s', ⟨v, q1, q2⟩, by omega, S, σ0, k, μ, p1', p2', e1, l, ⟨q3, q4, q5, q6, fun h0 => ?_⟩, hT.kp0 g m (fun f => by omega) (fun q _ _ z => by omega), hS.kf (w2 0 7 (by omega)) (w1 0 9 (by omega)) w4 w5 w6 (fun k hk => (w3 k (by omega) (by omega)).1) (m1 88 (by omega)) (m3 47 (by omega)), ⟨hc.kp0 g (by omega) ⟨by omega, by omega⟩ hkN', hr.kp0 m (by omega) (by omega), by omega⟩, ⟨hH.kp0 g ⟨by omega, by omega, by omega⟩ hkN', hM.kp0 g (fun k _ _ q => by omega)⟩, ?_, ?_⟩
    · rcases q9 with q | ⟨y1, y2⟩
      · rw [q] at h0
        exact absurd h0 (by decide)
      · rw [y2]
        exact hO1.2.2.2 (by rw [← y1]; exact h0)
    · rw [p1, eg]; omega
    · rw [p2, eg]; omega
  | 2 =>
    obtain ⟨v, q1, q2⟩ := p_fault (N := N) (X := X) (a := a1) hO1.1
    exact ⟨t, s, ⟨v, q1, q2⟩, hI.dn⟩
  | 3 =>
    obtain ⟨m, hm⟩ := iG_of hO1.2.2.1
    obtain ⟨v, q1, q2⟩ := p_function (N := N) (X := X) (a := a1) (b := a2) hm
    exact ⟨t, s, ⟨v, q1, q2⟩, hI.dn⟩
  | 4 =>
    obtain ⟨t', s', v, q1, q2, q3⟩ := p_run (N := N) (X := X) (a1 := a1) (a2 := a2) (a3 := a3) hN hX hY hZ hS hO1.2.2.1 hO1.2.2.2 hH hM hc (by omega)
    rcases q3 with ⟨y1, y2⟩ | ⟨S', l', y1, y2, y3, y4, y5, y6, y7, y8, y9⟩
    · subst y1 y2
      exact ⟨_, _, ⟨v, q1, q2⟩, hI.dn⟩
    · obtain ⟨f1, f2, f3, f4, f5, f6, f7, f8, f9⟩ := y8
      have g : kfO (fun k f => k = 42 ∨ k = 45 ∨ k = 48 ∨ k = 49 ∨ k = 58 ∨ k = 3000000 + σ0) (fun k => 43 ≤ k ∧ k ≤ 60) t t' := ⟨f1, fun k hk r1 r2 => f3 k r1 (by omega) r2⟩
      have m : mfr (fun q => iRn q ∨ q = 68) (fun q => q = 89) aRn (fun _ => False) s s' := y9
      have eg := gA_ch (t := t) (t' := t') (σ0 := σ0) f4 (fun m hm σ q => by
        have hne := (hS.2.2.2.2.2.2.2.1 m hm σ q).2.1
        exact gS_eq (fun i hi => (f3 _ (by omega) (by omega) (by omega)).1))
      obtain ⟨p3, p4⟩ := potL.kp0 g (fun k _ _ q => by omega)
      refine ⟨t', s', ⟨v, q1, q2⟩, by omega, S', σ0, k, μ, p, p', e, l', ⟨hA.kp0 g m (by omega) (by omega) (by unfold iRn; omega) (by unfold aRn; omega), hO1.kp0 ⟨f2 0 3 (by omega), f2 0 4 (by omega)⟩ g m ⟨by omega, by omega⟩ (fun f => ⟨by omega, by omega⟩) (fun k _ _ q => by omega) (fun q r z => by unfold iRn at z; omega) (fun q r z => by unfold aRn at z; omega) (fun q z => z)⟩, y7, y1, ⟨y4, y5, by omega⟩, ⟨y2, y3⟩, ?_, ?_⟩
      · rw [p3]; omega
      · rw [p4]; omega
  | 5 =>
    obtain ⟨v, q1, q2⟩ := p_trouble (N := N) (X := X) (a := a1) hT
    exact ⟨t, s, ⟨v, q1, q2⟩, hI.dn⟩
  | 6 =>
    obtain ⟨v, q1, q2⟩ := p_out (N := N) (X := X) (a := a1) (iO_of hc hr (by omega))
    exact ⟨t, s, ⟨v, q1, q2⟩, hI.dn⟩
  | 7 =>
    obtain ⟨v, q1, q2⟩ := p_outs (N := N) (X := X) (iO_of hc hr (by omega))
    exact ⟨t, s, ⟨v, q1, q2⟩, hI.dn⟩
  | 8 =>
    obtain ⟨t', s', l', v, q1, q2, q3, q4, q5, q6, q7, q8⟩ := p_show (N := N) (X := X) (by omega) hS hH hc hr a1
    have g := q6.O
    have hP : kP t' = kP t := q6.2.2.1
    have eg : gA t' σ0 = gA t σ0 := gA_eq q6.2.2.2.2.1 (fun k hk => (q6.2.2.2.1 k (by omega) (by omega)).1)
    obtain ⟨p3, p4⟩ := potL.kp0 g (fun k _ _ q => by omega)
    have y1 := q6.2.2.2.2.2.2.2.1
    have y2 := q6.2.2.2.2.2.2.2.2
    refine ⟨t', s', ⟨v, q1, q2⟩, by omega, S, σ0, k, μ, p, p', e, l', ⟨hA.kp0 g q7 (by omega) (by omega) (by omega) (by omega), hO1.kp0 ⟨by rw [hP], by rw [hP]⟩ g q7 ⟨by omega, by omega⟩ (fun f => ⟨by omega, by omega⟩) (fun k _ _ q => by omega) (fun q _ z => by omega) (fun q _ z => by omega) (fun q z => z)⟩, hT.kp0 g q7 (fun f => by omega) (fun q _ _ z => by omega), hS.gf q6 (by omega) (fun k q => by omega) (q7.1 88 (by omega)) (q7.2.2.1 47 (by omega)), ⟨q3, q4, by omega⟩, ⟨q8, hM.kp0 g (fun k _ _ q => by omega)⟩, ?_, ?_⟩
    · rw [p3, eg]; omega
    · rw [p4, eg]; omega
  | 9 =>
    obtain ⟨t', s', S', v, q1, q2, q3, q4, q5⟩ := p_set (N := N) (X := X) hS (by omega) a1 a2
    exact ⟨t', s', ⟨v, q1, q2⟩, InvR.shelf (c := 2) hn hA hO1 hT hS hc hr hl hH hM hq hkN (by omega) q3 q4 q5⟩
  | 10 =>
    obtain ⟨t', s', S', v, q1, q2, q3, q4, q5⟩ := p_add (N := N) (X := X) hS (by omega) a1 a2
    exact ⟨t', s', ⟨v, q1, q2⟩, InvR.shelf (c := 3) hn hA hO1 hT hS hc hr hl hH hM hq hkN (by omega) q3 q4 q5⟩
  | 11 =>
    obtain ⟨t', s', S', v, q1, q2, q3, q4, q5⟩ := p_clear (N := N) (X := X) hS a1
    exact ⟨t', s', ⟨v, q1, q2⟩, InvR.shelf (c := 0) hn hA hO1 hT hS hc hr hl hH hM hq hkN (by omega) q3 q4 q5⟩
  | 12 =>
    obtain ⟨v, q1, q2⟩ := p_kind (N := N) (X := X) hS a1
    exact ⟨t, s, ⟨v, q1, q2⟩, hI.dn⟩
  | 13 =>
    obtain ⟨t', v, q1, q2, q3, q4⟩ := p_size (N := N) (X := X) (by omega) hS hH a1 a2
    refine ⟨t', s, ⟨v, q1, q2⟩, ?_⟩
    have q6 := q3.gf
    have g := q6.O
    have m : mfr (fun _ => False) (fun _ => False) (fun _ => False) (fun _ => False) s s := mfr.rf
    have hP : kP t' = kP t := q6.2.2.1
    have eg : gA t' σ0 = gA t σ0 := gA_eq q6.2.2.2.2.1 (fun k hk => (q6.2.2.2.1 k (by omega) (by omega)).1)
    obtain ⟨p3, p4⟩ := potL.kp0 g (fun k _ _ q => by omega)
    have y1 := q6.2.2.2.2.2.2.2.1
    have y2 := q6.2.2.2.2.2.2.2.2
    have hN' : kN t' + 200 < zz_out := by
      have := pot_le (t := t') q4.2.2.2.2.2
      omega
    refine ⟨by omega, S, σ0, k, μ, p, p', e, l, ⟨hA.kp0 g m (by omega) (by omega) (fun z => z) (fun z => z), hO1.kp0 ⟨by rw [hP], by rw [hP]⟩ g m ⟨by omega, by omega⟩ (fun f => ⟨by omega, by omega⟩) (fun k _ _ q => by omega) (fun q _ z => z) (fun q _ z => z) (fun q z => z)⟩, hT.kp0 g m (fun f => by omega) (fun q _ _ z => z), hS.rd q3, ⟨hc.kp0 g (by omega) ⟨by omega, by omega⟩ hN', hr, by omega⟩, ⟨q4, hM.kp0 g (fun k _ _ q => by omega)⟩, ?_, ?_⟩
    · rw [p3, eg]; omega
    · rw [p4, eg]; omega
  | 14 =>
    obtain ⟨t', v, q1, q2, q3, q4⟩ := p_cell (N := N) (X := X) (by omega) hS hH a1 a2 a3
    refine ⟨t', s, ⟨v, q1, q2⟩, ?_⟩
    have q6 := q3.gf
    have g := q6.O
    have m : mfr (fun _ => False) (fun _ => False) (fun _ => False) (fun _ => False) s s := mfr.rf
    have hP : kP t' = kP t := q6.2.2.1
    have eg : gA t' σ0 = gA t σ0 := gA_eq q6.2.2.2.2.1 (fun k hk => (q6.2.2.2.1 k (by omega) (by omega)).1)
    obtain ⟨p3, p4⟩ := potL.kp0 g (fun k _ _ q => by omega)
    have y1 := q6.2.2.2.2.2.2.2.1
    have y2 := q6.2.2.2.2.2.2.2.2
    have hN' : kN t' + 200 < zz_out := by
      have := pot_le (t := t') q4.2.2.2.2.2
      omega
    refine ⟨by omega, S, σ0, k, μ, p, p', e, l, ⟨hA.kp0 g m (by omega) (by omega) (fun z => z) (fun z => z), hO1.kp0 ⟨by rw [hP], by rw [hP]⟩ g m ⟨by omega, by omega⟩ (fun f => ⟨by omega, by omega⟩) (fun k _ _ q => by omega) (fun q _ z => z) (fun q _ z => z) (fun q z => z)⟩, hT.kp0 g m (fun f => by omega) (fun q _ _ z => z), hS.rd q3, ⟨hc.kp0 g (by omega) ⟨by omega, by omega⟩ hN', hr, by omega⟩, ⟨q4, hM.kp0 g (fun k _ _ q => by omega)⟩, ?_, ?_⟩
    · rw [p3, eg]; omega
    · rw [p4, eg]; omega
  | 15 =>
    obtain ⟨s', v, q1, q2, q3⟩ := p_same (N := N) (X := X) (by omega) hS a1 a2
    have g : kfO (fun _ _ => False) (fun _ => False) t t := ⟨fun _ _ _ => rfl, fun _ _ _ _ => ⟨rfl, rfl⟩⟩
    exact ⟨t, s', ⟨v, q1, q2⟩, by omega, S, σ0, k, μ, p, p', e, l, ⟨hA.kp0 g q3 (fun z => z) (fun z => z) (by omega) (by omega), hO1.kp0 ⟨rfl, rfl⟩ g q3 ⟨fun z => z, fun z => z⟩ (fun f => ⟨fun z => z, fun z => z⟩) (fun k _ _ z => z) (fun q _ z => by omega) (fun q _ z => by omega) (fun q z => z)⟩, hT.kp0 g q3 (fun f z => z) (fun q _ _ z => by omega), hS.rk (q3.1 88 (by omega)) (fun y _ => by rw [q3.2.2.1 47 (by omega)]), ⟨hc, hr.kp0 q3 (by omega) (by omega), by omega⟩, ⟨hH, hM⟩, by omega, by omega⟩
  | 16 =>
    obtain ⟨t', s', S', k', μ', v, q1, q2, q3, q4, q5, q6, q7, q8⟩ := p_mark (N := N) (X := X) (by omega) hS (by omega)
    have g := q4.O
    obtain ⟨p1, p2⟩ := pot.kp0 g (fun k _ _ q => q)
    obtain ⟨p3, p4⟩ := potL.kp0 g (fun k _ _ q => q)
    refine ⟨t', s', ⟨v, q1, q2⟩, by omega, S', σ0, k', μ', p, p', e, l, ⟨hA.kp0 g q8 (by omega) (fun z => z) (by omega) (by omega), hO1.kp0 ⟨q4.2.2.1 0 3 (by omega), q4.2.2.1 0 4 (by omega)⟩ g q8 ⟨by omega, by omega⟩ (fun f => ⟨by omega, by omega⟩) (fun k _ _ q => q) (fun q _ z => by omega) (fun q _ z => by omega) (fun q z => z)⟩, hT.kp0 g q8 (fun f => by omega) (fun q _ _ z => by omega), q3, ⟨hc.kp0 g (by omega) ⟨fun z => z, fun z => z⟩ (by omega), hr.kp0 q8 (by omega) (by omega), by omega⟩, ⟨hH.kp0 g ⟨fun z => z, fun z => z, fun z => z⟩ (by omega), hM.kp0 g (fun k _ _ q => q)⟩, ?_, ?_⟩
    · rw [p1, p3]; omega
    · rw [p2, p4]; omega
  | 17 =>
    obtain ⟨t', s', S', σ', k', v, q1, q2, q3, q4, q5, q6, q7, q8⟩ := p_back (N := N) (X := X) (by omega) hS
    have g := q4.O
    obtain ⟨p1, p2⟩ := pot.kp0 g (fun k _ _ q => q)
    obtain ⟨p3, p4⟩ := potL.kp0 g (fun k _ _ q => q)
    refine ⟨t', s', ⟨v, q1, q2⟩, by omega, S', σ', k', μ, p, p', e, l, ⟨hA.kp0 g q8 (by omega) (fun z => z) (by omega) (by omega), hO1.kp0 ⟨q4.2.2.1 0 3 (by omega), q4.2.2.1 0 4 (by omega)⟩ g q8 ⟨by omega, by omega⟩ (fun f => ⟨by omega, by omega⟩) (fun k _ _ q => q) (fun q _ z => by omega) (fun q _ z => by omega) (fun q z => z)⟩, hT.kp0 g q8 (fun f => by omega) (fun q _ _ z => by omega), q3, ⟨hc.kp0 g (by omega) ⟨fun z => z, fun z => z⟩ (by omega), hr.kp0 q8 (by omega) (by omega), by omega⟩, ⟨hH.kp0 g ⟨fun z => z, fun z => z, fun z => z⟩ (by omega), hM.kp0 g (fun k _ _ q => q)⟩, ?_, ?_⟩
    · rw [p1, p3, q7, q5]; omega
    · rw [p2, p4, q7, q6]; omega
  | 18 =>
    obtain ⟨s', v, q1, q2, q3⟩ := p_sum (N := N) (X := X) (by omega) hS
    have g : kfO (fun _ _ => False) (fun _ => False) t t := ⟨fun _ _ _ => rfl, fun _ _ _ _ => ⟨rfl, rfl⟩⟩
    exact ⟨t, s', ⟨v, q1, q2⟩, by omega, S, σ0, k, μ, p, p', e, l, ⟨hA.kp0 g q3 (fun z => z) (fun z => z) (by omega) (by omega), hO1.kp0 ⟨rfl, rfl⟩ g q3 ⟨fun z => z, fun z => z⟩ (fun f => ⟨fun z => z, fun z => z⟩) (fun k _ _ z => z) (fun q _ z => by omega) (fun q _ z => by omega) (fun q z => z)⟩, hT.kp0 g q3 (fun f z => z) (fun q _ _ z => by omega), hS.rk (q3.1 88 (by omega)) (fun y _ => by rw [q3.2.2.1 47 (by omega)]), ⟨hc, hr.kp0 q3 (by omega) (by omega), by omega⟩, ⟨hH, hM⟩, by omega, by omega⟩
  | (m + 19) => exact ⟨t, s, ⟨rfl, rfl⟩, hI.dn⟩
end STP
