/-! ===== PURE: run (10): measure ===== -/
section MEZ
variable {N F a : Nat} {s : mS} {x : Nod}
theorem me_0 {f : Nat} (h55 : s.1 55 = Int32.ofNat 0) : mf_298_L1 N (f + 1) 0 s = some (s, none) := by
  show mf_298_49 N (mf_298_L1 N f) s = _
  unfold mf_298_49 mf_298_224
  simp (disch := omega) only [ev_S, ev_P, ↓reduceIte, Nat.reduceEqDiff, Nat.reduceLeDiff, Nat.reduceAdd, Nat.reduceMul, Nat.reduceSub, reduceCtorEq, l32_0, l32_1, l32_2, l32_3, l32_4, l32_5, l32_6, l32_7, l32_8, l32_9, l32_10, l32_11, l32_12, l32_13, l32_14, l32_15, l32_16, l32_17, l32_18, l32_19, l32_20, l32_21, l32_22, l32_23, l32_24, l32_25, l32_26, l32_27, l32_28, l32_29, l32_33, l32_40, l32_41, l32_44, l32_45, l32_59, l32_61, l32_91, l32_93, l32_123, l32_125, h55]
theorem r_measure (hN : 170000 ≤ N) (hF : F ≤ 166300) (H : LayN (s.2.2.1 47) (Rf F) a x) (hx : x.1 ≤ 4) (hb : bulkN x ≤ 50000) : ∃ s', mf_298 N (Int32.ofNat a) s = some (s', none) ∧ s'.1 57 = Int32.ofNat (bulkN x) ∧ s'.1 56 = Int32.ofNat (dN x) ∧ fMe s s' := by
  obtain ⟨n, y⟩ := x
  have hlt := LayN.lt H
  have Lx := LayN_iff.mp H
  have k1 := Lx.2.kd.1
  have hbv : bulk n y = bulkV (vw ⟨n, y⟩) := vw_bulk ⟨n, y⟩
  have gd : ¬ (Int32.ofNat a < 0 ∨ 166300 ≤ Int32.toNatClampNeg (Int32.ofNat a)) := fun q => q.elim (fun q => i32n (by omega) q) (fun q => by rw [ev_S.1 (by omega)] at q; omega)
  obtain ⟨N1, hN1⟩ : ∃ N1, N = N1 + 1 := ⟨N - 1, by omega⟩
  by_cases hk : kdV (vw ⟨n, y⟩) = 3
  · obtain ⟨m, l', e1, e2, e3, e4⟩ := vw_pack hk
    rw [e2] at hlt Lx
    obtain ⟨s0, hs0⟩ : ∃ s0, s0 = mI (mI (mI s 56 (Int32.ofNat 0)) 57 (Int32.ofNat 1)) 55 (Int32.ofNat 0) := ⟨_, rfl⟩
    have gi := r_goesIn (N := N) (s := s0) (d := 0) (a := a) (b := 0) (by omega) (by rw [hs0]; rfl)
    have hx : n ≤ 4 := hx
    have hb : bulk n y ≤ 50000 := hb
    obtain ⟨k, s', b1, b2, b3, b4, b5, b6, b7⟩ := me_dfs hN hF m 0 (by omega) l' l'.length 0 (Nat.zero_add _) a (gin s0 0 a 0) 0 1 (by omega) rfl (by rw [hs0]; rfl) (by rw [hs0]; rfl) (by rw [hs0]; rfl) (by rw [hs0]; rfl) (by rw [hs0]; exact Lx.2) (by omega)
    rw [List.drop_zero] at b1 b4 b5
    refine ⟨s', ?_, ?_, ?_, mfr.tr (s1 := gin s0 0 a 0) ⟨fun q r => ?_, fun _ _ => by rw [hs0]; rfl, fun q r => ?_, fun _ _ => by rw [hs0]; rfl⟩ b7⟩
    · have hf := b2 (N - k)
      rw [show N - k + k = N by omega, show N - k = (N - k - 1) + 1 by omega, me_0 b3] at hf
      unfold mf_298 mf_298_0
      rw [if_pos gd, ev_S.1 (by omega), k1, if_neg (fun z => z hk)]
      unfold mf_298_16 mf_298_25
      rw [if_pos gd, ev_S.1 (by omega)]
      show (if ¬ (s.2.2.1 47) a = 3 then _ else mf_298_43 N (Int32.ofNat a) (mI (mI (mI s 56 (Int32.ofNat 0)) 57 (Int32.ofNat 1)) 55 (Int32.ofNat 0))) = _
      rw [k1, if_neg (fun z => z hk), ← hs0]
      unfold mf_298_43
      show mo_bv (mf_296 N (Int32.ofNat a) (Int32.ofNat 0) s0) _ = _
      rw [gi]
      exact hf
    · rw [b5]
      show _ = Int32.ofNat (bulk n y)
      rw [e3]
    · rw [b4]
      show _ = Int32.ofNat (dT n y)
      rw [e4]
      congr 1
    · rw [hs0]
      show (if q = 55 then _ else if q = 55 then _ else if q = 57 then _ else if q = 56 then _ else s.1 q) = _
      rw [if_neg (by omega), if_neg (by omega), if_neg (by omega), if_neg (by omega)]
    · rw [hs0]
      show (if q = 54 then _ else if q = 53 then _ else if q = 52 then _ else s.2.2.1 q) = _
      rw [if_neg (by omega), if_neg (by omega), if_neg (by omega)]
  · have hpb : pbV (vw ⟨n, y⟩) = bulk n y := by
      rw [hbv]
      cases hv : vw ⟨n, y⟩ with
      | inl z =>
        rw [hv] at Lx
        exact Lx.2.elim
      | inr v =>
        rcases v with r | q | l'
        · rfl
        · rfl
        · rw [hv] at hk
          exact absurd rfl hk
    have pb := r_plainBulk (s := mI s 56 (Int32.ofNat 0)) hN H hF hk
    have hd0 : dT n y = 0 := dN_0 (x := ⟨n, y⟩) hk
    obtain ⟨s0, hs0⟩ : ∃ s0, s0 = mI (mI (mI s 56 (Int32.ofNat 0)) 57 (Int32.ofNat (bulk n y))) 55 (Int32.ofNat 0) := ⟨_, rfl⟩
    refine ⟨s0, ?_, by rw [hs0]; rfl, by rw [hs0]; show _ = Int32.ofNat (dT n y); rw [hd0]; rfl, ⟨fun q r => ?_, fun _ _ => by rw [hs0]; rfl, fun _ _ => by rw [hs0]; rfl, fun _ _ => by rw [hs0]; rfl⟩⟩
    · unfold mf_298 mf_298_0
      rw [if_pos gd, ev_S.1 (by omega), k1, if_pos hk]
      unfold mf_298_20
      show mo_bi (mf_297 N (Int32.ofNat a) (mI s 56 (Int32.ofNat 0))) _ = _
      rw [pb, hpb]
      show mf_298_25 N (Int32.ofNat a) (Int32.ofNat (bulk n y)) (mI s 56 (Int32.ofNat 0)) = _
      unfold mf_298_25
      rw [if_pos gd, ev_S.1 (by omega)]
      show (if ¬ (s.2.2.1 47) a = 3 then mf_298_L1 N N 0 (mI (mI (mI s 56 (Int32.ofNat 0)) 57 (Int32.ofNat (bulk n y))) 55 (Int32.ofNat 0)) else _) = _
      rw [k1, if_pos hk, ← hs0]
      have z := me_0 (N := N) (f := N1) (s := s0) (by rw [hs0]; rfl)
      rw [← hN1] at z
      exact z
    · rw [hs0]
      show (if q = 55 then _ else if q = 57 then _ else if q = 56 then _ else s.1 q) = _
      rw [if_neg (by omega), if_neg (by omega), if_neg (by omega)]
end MEZ
