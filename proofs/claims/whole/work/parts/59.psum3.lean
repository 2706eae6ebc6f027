/-! ===== PURE: sum ===== -/
def serS : Option (Th 4) → List Int32
  | none => [-1]
  | some x => ser 4 x
def sl (S : Nat → Option (Th 4)) (i : Nat) : Nat → List Int32
  | 0 => []
  | d + 1 => serS (S i) ++ sl S (i + 1) d
section SW
variable {N : Nat} {X : Nat → Option zz_C} {R : Nat → Prop} {t : cS} {s : mS} {σ σ0 k j a : Nat} {μ : Nat → Nat} {S : Nat → Option (Th 4)} {ξ : List Int32}
theorem r_mixThing (hN : 170000 ≤ N) (hR : ∀ y, R y → y < 166300) {v : Vw} (hn : ∀ n l, v = vP n l → n < 8 ∧ 2 * (l.map (bulk n)).sum + 1 ≤ 2000) (H : Wy (s.2.2.1 47) a (LayN (s.2.2.1 47) R) v) (ha : a + wV wn v ≤ 166300) : ∃ s', mf_355 N (Int32.ofNat a) s = some (s', none) ∧ s'.2.1 89 = mx (s.2.1 89) (serV v) ∧ fD s s' := by
  obtain ⟨k1, k2, k3⟩ := H.kd
  unfold mf_355 mf_355_0
  rw [if_pos (gd rfl (by omega) (by decide)), i32c (m := a) (by omega), k1]
  by_cases hk : kdV v = 3
  · rw [if_pos hk]
    obtain z | r | q | ⟨n, l⟩ := v
    · exact H.elim
    · exact absurd hk (show ¬ (1 : Int32) = 3 by decide)
    · exact absurd hk (show ¬ (2 : Int32) = 3 by decide)
    · obtain ⟨hn1, hn2⟩ := hn n l rfl
      unfold mf_355_16
      rw [r_mix']
      show ∃ s', mf_355_21 N (Int32.ofNat a) (mL s 89 (mx (s.2.1 89) [3])) = _ ∧ _
      unfold mf_355_21
      rw [r_size (s := mL s 89 (mx (s.2.1 89) [3])) (v := vP n l) H ha]
      show ∃ s', mf_355_27 N (Int32.ofNat a) (Int32.ofNat l.length) (mL s 89 (mx (s.2.1 89) [3])) = _ ∧ _
      unfold mf_355_27
      rw [r_mix, ← mx_app]
      show ∃ s', mf_355_30 N (Int32.ofNat a) (mL s 89 (mx (s.2.1 89) [3, Int32.ofNat l.length])) = _ ∧ _
      obtain ⟨S3, hS3⟩ : ∃ S3, S3 = mL s 89 (mx (s.2.1 89) [3, Int32.ofNat l.length]) := ⟨_, rfl⟩
      rw [← hS3]
      unfold mf_355_30 mf_296 mf_296_0
      have e55 : (mI S3 55 0).1 55 = Int32.ofNat 0 := rfl
      rw [e55, if_pos (gd rfl (by omega) (by decide)), if_pos (gd rfl (by omega) (by decide)), if_pos (gd rfl (by omega) (by decide)), i32c (m := 0) (by omega), show Int32.ofNat 0 + 1 = Int32.ofNat (0 + 1) from i32al]
      obtain ⟨s2, hs2⟩ : ∃ s2, s2 = mI (mA (mA (mA (mI S3 55 0) 52 (upd ((mI S3 55 0).2.2.1 52) 0 (Int32.ofNat a))) 53 (upd ((mI S3 55 0).2.2.1 53) 0 0)) 54 (upd ((mI S3 55 0).2.2.1 54) 0 0)) 55 (Int32.ofNat (0 + 1)) := ⟨_, rfl⟩
      rw [← hs2]
      show ∃ s', mf_355_L1 N N 0 s2 = _ ∧ _
      have e47 : s2.2.2.1 47 = s.2.2.1 47 := by rw [hs2, hS3]; rfl
      have e89 : s2.2.1 89 = mx (s.2.1 89) [3, Int32.ofNat l.length] := by
        rw [hs2]
        show S3.2.1 89 = _
        rw [hS3]
        show (if (89 : Nat) = 89 then mx (s.2.1 89) [3, Int32.ofNat l.length] else s.2.1 89) = _
        rw [if_pos rfl]
      obtain ⟨c, s', r1, r2, r3, r4, r5, r6⟩ := r_dfs (N := N) hN hR n l.length 0 l a 0 s2 (Nat.zero_add _) (by omega) (by rw [hs2]; rfl) (by rw [hs2]; rfl) (by rw [hs2]; rfl) (by rw [e47]; exact H) ha
      rw [List.drop_zero] at r1 r4
      have r2 := r2 (N - c)
      rw [show N - c + c = N by omega] at r2
      obtain ⟨m, hm⟩ : ∃ m, N - c = m + 1 := ⟨N - c - 1, by omega⟩
      refine ⟨s', ?_, ?_, mfr.tr (s1 := s2) ⟨fun q r => ?_, fun q r => ?_, fun q r => ?_, fun q r => ?_⟩ r6⟩
      · rw [r2, hm]
        show mf_355_41 N (mf_355_L1 N m) s' = _
        unfold mf_355_41
        rw [r3, if_pos (show Int32.ofNat 0 ≤ 0 by decide)]
        rfl
      · rw [r4, e89, ← mx_app]
        rfl
      · rw [hs2]
        refine (if_neg r).trans ?_
        show (mI S3 55 0).1 q = _
        refine (if_neg r).trans ?_
        rw [hS3]
        rfl
      · rw [hs2]
        show S3.2.1 q = _
        rw [hS3]
        exact if_neg r
      · rw [hs2]
        show (if q = 54 then _ else if q = 53 then _ else if q = 52 then _ else S3.2.2.1 q) = _
        rw [if_neg (fun z => r (Or.inr (Or.inr z))), if_neg (fun z => r (Or.inr (Or.inl z))), if_neg (fun z => r (Or.inl z)), hS3]
        rfl
      · rw [hs2]
        show S3.2.2.2 q = _
        rw [hS3]
        rfl
  · rw [if_neg hk]
    unfold mf_355_10
    have e := r_mixPlain (s := s) (z := s.2.1 89) hN hR hk H ha
    rw [mL_id] at e
    rw [e]
    generalize mx (s.2.1 89) (serV v) = w
    exact ⟨mL s 89 w, rfl, rfl, ⟨fun _ _ => rfl, fun q r => if_neg r, fun _ _ => rfl, fun _ _ => rfl⟩⟩
theorem c_sumL (h0 : cS0 t σ) (hj : j < 8) (hl : ξ.length ≤ 1200) (h : cS1 t σ j ξ) : ∀ (d i f : Nat) (z : Int64), i + d = ξ.length → cf_28_L1 N X (f + (d + 1)) 0 σ (Int32.ofNat j) z (Int32.ofNat i) t = some (t, .inl (some (.long (mx z (ξ.drop i))))) := by
  obtain ⟨g1, g2, g3⟩ := h0
  obtain ⟨h1, h2, h3⟩ := h
  have ej : ¬ (Int32.ofNat j < 0 ∨ 8 ≤ j) := fun q => q.elim (i32n (by omega)) (by omega)
  have ej' : ¬ (Int32.ofNat j < 0 ∨ (kA t (2000000 + 20 * σ + 10)).1 ≤ j) := fun q => q.elim (i32n (by omega)) (by omega)
  intro d
  induction d with
  | zero =>
    intro i f z hi
    have hi : i = ξ.length := hi
    subst hi
    rw [List.drop_length]
    show cf_28_25 N X (cf_28_L1 N X f) σ (Int32.ofNat j) z (Int32.ofNat ξ.length) t = _
    unfold cf_28_25
    rw [if_pos g1, i32c (m := j) (by omega), if_pos ej', h1, if_pos ((i32le (by omega) (by omega)).mpr (Nat.le_refl _))]
    rfl
  | succ d ih =>
    intro i f z hi
    have hi' : i < ξ.length := by omega
    show cf_28_25 N X (cf_28_L1 N X (f + (d + 1))) σ (Int32.ofNat j) z (Int32.ofNat i) t = _
    unfold cf_28_25
    rw [if_pos g1, i32c (m := j) (by omega), if_pos ej', h1, if_neg (fun q => by have := (i32le (by omega) (by omega)).mp q; omega)]
    unfold cf_28_36
    rw [if_pos g1, i32c (m := j) (by omega), if_pos ej, i32c (m := i) (by omega), if_pos (fun q => q.elim (i32n (by omega)) (by omega)), h3 i hi', show Int32.ofNat i + 1 = Int32.ofNat (i + 1) from i32al, ih (i + 1) f _ (by omega), List.drop_eq_getElem_cons hi', mx_cons (l := ξ.drop (i + 1))]
    rfl
theorem c_sumOn (hN : 2000 ≤ N) (h0 : cS0 t σ) (hj : j < 8) {x : Option (Th 4)} (hl : (serO x).length ≤ 1200) (h : cS1 t σ j (serO x)) (z : Int64) : cf_28 N X σ (Int32.ofNat j) z t = some (t, .inl (some (.long (mx z (serS x))))) := by
  have h0' := h0
  have h' := h
  obtain ⟨g1, g2, g3⟩ := h0'
  obtain ⟨h1, h2, h3⟩ := h'
  have ej' : ¬ (Int32.ofNat j < 0 ∨ (kA t (2000000 + 20 * σ + 10)).1 ≤ j) := fun q => q.elim (i32n (by omega)) (by omega)
  unfold cf_28 cf_28_0
  rw [if_pos g1, i32c (m := j) (by omega), if_pos ej', h1]
  cases x with
  | none =>
    rw [if_neg (fun q => q rfl)]
    rfl
  | some y =>
    have hp : 0 < (serO (some y)).length := by
      obtain ⟨l, hl⟩ := ser_kd 4 y
      have hl : serO (some y) = kdT 4 y :: l := hl
      rw [hl]
      exact Nat.succ_pos _
    rw [if_pos (show ¬ Int32.ofNat (serO (some y)).length = 0 from fun q => by have := (i32eq (b := 0) (by omega) (by decide)).mp q; omega)]
    unfold cf_28_19
    have e := c_sumL (N := N) (X := X) h0 hj hl h (serO (some y)).length 0 (N - ((serO (some y)).length + 1)) z (Nat.zero_add _)
    rw [show N - ((serO (some y)).length + 1) + ((serO (some y)).length + 1) = N by omega, List.drop_zero] at e
    exact e
theorem c_sum (hN : 2000 ≤ N) (h : iS S σ0 k μ t s) : ∀ (d i f : Nat) (z : Int64), i + d = 8 → cf_20_L1 N X (f + (d + 1)) 0 z (Int32.ofNat i) t = some (t, .inl (some (.long (mx z (sl S i d))))) := by
  obtain ⟨h1, h2, h3, h4, ⟨h5, h50⟩, h6, h7, -⟩ := h
  intro d
  induction d with
  | zero =>
    intro i f z hi
    have hi : i = 8 := hi
    subst hi
    show cf_20_4 N X (cf_20_L1 N X f) z (Int32.ofNat 8) t = _
    unfold cf_20_4
    rw [if_pos (show (8 : Int32) ≤ Int32.ofNat 8 by decide)]
    rfl
  | succ d ih =>
    intro i f z hi
    show cf_20_4 N X (cf_20_L1 N X (f + (d + 1))) z (Int32.ofNat i) t = _
    unfold cf_20_4
    rw [if_neg (show ¬ (8 : Int32) ≤ Int32.ofNat i from fun q => by have := (i32le (a := 8) (by decide) (by omega)).mp q; omega)]
    unfold cf_20_10
    rw [h2]
    show (if kH t σ0 = true then _ else none) = _
    rw [if_pos h5.1, c_sumOn hN h5 (by omega) (serO_len (fun y hy => h7 i y hy)) (h6 i (by omega)).1 z]
    show cf_20_L1 N X (f + (d + 1)) 0 (mx z (serS (S i))) (Int32.ofNat i + 1) t = _
    rw [show Int32.ofNat i + 1 = Int32.ofNat (i + 1) from i32al, ih (i + 1) f _ (by omega), ← mx_app]
    rfl
theorem r_sum (hN : 170000 ≤ N) (hw : ∀ j x, S j = some x → wfT 4 x) : ∀ (d i : Nat) (s : mS), i + d = 8 → (∀ j, j < 8 → rSl (s.2.2.1 47) j (S j)) → ∃ s', (∀ f, mf_86_L1 N (f + (d + 1)) 0 (Int32.ofNat i) s = some (s', some (.long (mx (s.2.1 89) (sl S i d))))) ∧ fD s s' := by
  intro d
  induction d with
  | zero =>
    intro i s hi hs
    have hi : i = 8 := hi
    subst hi
    refine ⟨s, fun f => ?_, mfr.rf⟩
    show mf_86_7 N (mf_86_L1 N f) (Int32.ofNat 8) s = _
    unfold mf_86_7
    rw [if_pos (show (8 : Int32) ≤ Int32.ofNat 8 by decide)]
    rfl
  | succ d ih =>
    intro i s hi hs
    obtain ⟨i1, i2, i3⟩ := slot_ix (j := i) (by omega)
    have hsi := hs i (by omega)
    have hd := hsi.hd
    have key : ∃ s1, (∀ rc, mf_86_13 N rc (Int32.ofNat i) s = rc 0 (Int32.ofNat (i + 1)) s1) ∧ s1.2.1 89 = mx (s.2.1 89) (serS (S i)) ∧ fD s s1 := by
      have en : Int32.ofNat i + 1 = Int32.ofNat (i + 1) := i32al
      cases hS : S i with
      | none =>
        rw [hS] at hd
        generalize hw9 : mx (s.2.1 89) [-1] = w
        refine ⟨mL s 89 w, fun rc => ?_, ?_, ⟨fun _ _ => rfl, fun q r => if_neg r, fun _ _ => rfl, fun _ _ => rfl⟩⟩
        · unfold mf_86_13
          rw [if_pos i2, i1, hd, if_neg (fun q => q rfl)]
          unfold mf_86_27
          rw [r_mix', hw9]
          show rc 0 (Int32.ofNat i + 1) (mL s 89 w) = _
          rw [en]
        · show w = mx (s.2.1 89) [-1]
          exact hw9.symm
      | some x =>
        rw [hS] at hd hsi
        have hv := vw_kd ⟨4, x⟩
        have hd : s.2.2.1 47 (2410 * i) = kdT 4 x := hd
        have hne : ¬ kdT 4 x = -1 := by
          rw [show kdT 4 x = kdV (vw ⟨4, x⟩) from hv]
          generalize vw ⟨4, x⟩ = v
          obtain y | r | q | l := v
          · exact (show ¬ (0 : Int32) = -1 by decide)
          · exact (show ¬ (1 : Int32) = -1 by decide)
          · exact (show ¬ (2 : Int32) = -1 by decide)
          · exact (show ¬ (3 : Int32) = -1 by decide)
        have h13 : ∀ rc, mf_86_13 N rc (Int32.ofNat i) s = mf_86_35 N rc (Int32.ofNat i) s := fun rc => by
          unfold mf_86_13
          rw [if_pos i2, i1, hd, if_pos hne]
        unfold rSl at hsi
        dsimp only at hsi
        cases hz : intT 4 x with
        | some z =>
          rw [hz] at hsi
          obtain ⟨z1, z2⟩ := hsi
          generalize hw9 : mx (s.2.1 89) [0, z] = w
          refine ⟨mL s 89 w, fun rc => ?_, ?_, ⟨fun _ _ => rfl, fun q r => if_neg r, fun _ _ => rfl, fun _ _ => rfl⟩⟩
          · rw [h13]
            unfold mf_86_35
            rw [if_pos i2, i1, z1, if_neg (fun q => q rfl)]
            unfold mf_86_48
            rw [r_mix']
            show mf_86_53 N rc (Int32.ofNat i) (mL s 89 (mx (s.2.1 89) [0])) = _
            unfold mf_86_53
            have e1 : (2410 : Int32) * Int32.ofNat i + 1 = Int32.ofNat (2410 * i + 1) := by rw [i3]; exact i32al
            have e2 : (mL s 89 (mx (s.2.1 89) [0])).2.2.1 47 (2410 * i + 1) = z := z2
            rw [if_pos (gd e1 (by omega) (by decide)), cl e1 (by omega), e2, r_mix, ← mx_app]
            show mo_bv (some (mL s 89 (mx (s.2.1 89) [0, z]), none)) _ = _
            rw [hw9]
            show rc 0 (Int32.ofNat i + 1) (mL s 89 w) = _
            rw [en]
          · show w = mx (s.2.1 89) (ser 4 x)
            rw [int_ser hz]
            exact hw9.symm
        | none =>
          rw [hz] at hsi
          have hsi : LayN (s.2.2.1 47) (Rk i) (2410 * i) ⟨4, x⟩ := hsi
          obtain ⟨L1, L2⟩ := LayN_iff.mp hsi
          obtain ⟨-, -, k3⟩ := L2.kd
          have hR : ∀ y, Rk i y → y < 166300 := fun y hy => by have := hy.2; omega
          have hc : 2410 * i + wV wn (vw ⟨4, x⟩) ≤ 166300 := by
            have := hR _ (L1 (2410 * i + wV wn (vw ⟨4, x⟩) - 1) (by omega) (by omega))
            omega
          have hb := bulk_wf 4 x (hw i x hS)
          obtain ⟨s1, r1, r2, r3⟩ := r_mixThing (N := N) (s := s) (R := Rk i) hN hR (fun n l e => by
            revert e hb
            generalize x = x
            intro hb e
            obtain p | l' := x
            · obtain y | r | q := p <;> cases e
            · cases e
              have hb : 1 + (l'.map (bulk 3)).sum ≤ 600 := hb
              exact ⟨by decide, by show 2 * (l'.map (bulk 3)).sum + 1 ≤ 2000; omega⟩) L2 hc
          refine ⟨s1, fun rc => ?_, ?_, r3⟩
          · rw [h13]
            unfold mf_86_35
            rw [if_pos i2, i1, hd, if_pos (show ¬ kdT 4 x = 0 from fun q => by
              rw [show kdT 4 x = kdV (vw ⟨4, x⟩) from hv] at q
              rw [show intT 4 x = intV (vw ⟨4, x⟩) from vw_int ⟨4, x⟩] at hz
              revert q hz
              generalize vw ⟨4, x⟩ = v
              intro hz q
              obtain y | r | q' | l := v
              · cases hz
              · exact absurd q (show ¬ (1 : Int32) = 0 by decide)
              · exact absurd q (show ¬ (2 : Int32) = 0 by decide)
              · exact absurd q (show ¬ (3 : Int32) = 0 by decide))]
            unfold mf_86_72
            rw [i3, r1]
            show rc 0 (Int32.ofNat i + 1) s1 = _
            rw [en]
          · rw [r2, ← vw_ser ⟨4, x⟩]
            rfl
    obtain ⟨s1, q1, q2, q3⟩ := key
    have e47 : s1.2.2.1 47 = s.2.2.1 47 := q3.2.2.1 47 (by omega)
    obtain ⟨s', r1, r2⟩ := ih (i + 1) s1 (by omega) (fun j hj => by rw [e47]; exact hs j hj)
    refine ⟨s', fun f => ?_, q3.tr r2⟩
    show mf_86_7 N (mf_86_L1 N (f + (d + 1))) (Int32.ofNat i) s = _
    unfold mf_86_7
    rw [if_neg (show ¬ (8 : Int32) ≤ Int32.ofNat i from fun q => by have := (i32le (a := 8) (by decide) (by omega)).mp q; omega), q1, r1 f, q2, ← mx_app]
    rfl
theorem p_sum (hN : 170000 ≤ N) (h : iS S σ0 k μ t s) : ∃ s', ∃ v : Int64, cf_20 N X t = some (t, .inl (some (.long v))) ∧ mf_86 N s = some (s', some (.long v)) ∧ fD s s' := by
  have h' := h
  obtain ⟨h1, h2, h3, h4, ⟨h5, h50⟩, h6, h7, -⟩ := h'
  obtain ⟨s', r1, r2⟩ := r_sum (N := N) (S := S) hN h7 8 0 (mL s 89 0) rfl (fun j hj => (h6 j hj).2)
  have r1 := r1 (N - 9)
  rw [show N - 9 + (8 + 1) = N by omega] at r1
  have c1 := c_sum (N := N) (X := X) (by omega) h 8 0 (N - 9) 0 rfl
  rw [show N - 9 + (8 + 1) = N by omega] at c1
  refine ⟨s', mx 0 (sl S 0 8), c1, r1, mfr.tr (s1 := mL s 89 0) ⟨fun _ _ => rfl, fun q r => if_neg r, fun _ _ => rfl, fun _ _ => rfl⟩ r2⟩
end SW
