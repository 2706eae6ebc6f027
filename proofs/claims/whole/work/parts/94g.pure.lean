/-! ===== PURE: load (1): the whole text ===== -/
section TXT
variable {N : Nat} {X : Nat → Option zz_C} {t t' t1 t2 : cS} {s s' s1 s2 : mS} {b : Nat → Nat} {n p e i op c D : Nat} {code : List Ins} {cl : List Cn} {Fs : List Fn}
theorem ck_0 {k : Tk} : ck k = 0 ↔ k.1 = 0 := by
  unfold ck
  split
  · rename_i h
    split
    · exact ⟨fun q => by omega, fun q => by omega⟩
    · exact ⟨fun q => by omega, fun q => by omega⟩
  · exact Iff.rfl
theorem FRf.rf : FRf p e t t s s := ⟨gL.rf, fJ.rf⟩
/-- all functions of a text -/
theorem p_text (hN : 170000 ≤ N) (hX : oX N X) (hY : oY X) (hZ : oZ X) : ∀ (d i : Nat) (code : List Ins) (cl : List Cn) (Fs : List Fn) (t : cS) (s : mS) (m Q : Nat), (TL b n).length ≤ i + d → QE b n p e i code cl Fs t s → m ≤ i → d < Q → (∃ t' s' k i' code' cl' Fs', cf_35_L3 N X Q 0 (Int32.ofNat m) t = cf_35_76 N X t' ∧ k + i ≤ (TL b n).length + 1 ∧ (∀ f, TW N (f + k) s = some (s', none)) ∧ QE b n p e i' code' cl' Fs' t' s' ∧ FRf p e t t' s s') ∨ (∃ t' s' k, cf_35_L3 N X Q 0 (Int32.ofNat m) t = some (t', .inl none) ∧ k + i ≤ (TL b n).length + 1 ∧ (∀ f, TW N (f + k) s = some (s', none)) ∧ pF t' s' ∧ FXf p e t t' s s') := by
  intro d
  induction d with
  | zero =>
    intro i code cl Fs t s m Q hd h
    obtain ⟨hi, -⟩ := h.1.now
    omega
  | succ d ih =>
    intro i code cl Fs t s m Q hd h hm hQ
    obtain ⟨Q, rfl⟩ : ∃ q, Q = q + 1 := ⟨Q - 1, by omega⟩
    have h1 := h.1
    obtain ⟨hi, e5, e6, e7, hkk, ho, he, hlt, hll⟩ := h1.now
    have hcnt := h1.cnt
    have hm1 : ¬ (TL b n).length ≤ m := by omega
    have h37 : s.1 37 = Int32.ofNat 0 := h.2.2.2.2.2.2.2.2.2.2.2.2.2.2.2.2.2.1
    have eL : cf_35_L3 N X (Q + 1) 0 (Int32.ofNat m) t = cf_35_44 N X (cf_35_L3 N X Q) (Int32.ofNat m) t := rfl
    rw [eL]
    by_cases z : (TL b n)[i].1 = 0
    · rw [ck_0.mpr z] at e5
      refine Or.inl ⟨t, s, 1, i, code, cl, Fs, ?_, by omega, fun f => TW_e h1 h37 (fun _ => z), h, FRf.rf⟩
      unfold cf_35_44 cf_35_53 cf_35_56 cf_35_63
      simp (disch := omega) only [ev_S, ev_C, ↓reduceIte, Nat.reduceEqDiff, Nat.reduceLeDiff, Nat.reduceAdd, Nat.reduceMul, Nat.reduceSub, reduceCtorEq, l32_0, l32_1, l32_2, l32_3, l32_4, l32_5, l32_6, l32_7, l32_8, l32_9, l32_10, l32_11, l32_12, l32_13, l32_14, l32_15, l32_16, l32_17, l32_18, l32_19, l32_20, l32_21, l32_22, l32_23, l32_24, l32_25, l32_26, l32_27, l32_28, l32_29, l32_33, l32_40, l32_41, l32_44, l32_45, l32_59, l32_61, l32_91, l32_93, l32_123, l32_125, c_count, hcnt, hm1, c_kindNow, e5]
    · have z2 : ¬ ck (TL b n)[i] = 0 := fun q => z (ck_0.mp q)
      have hR : cf_35_44 N X (cf_35_L3 N X Q) (Int32.ofNat m) t = ko_call 2005 (cf_173 N X t) (fun g1 v1 => co_v v1 (cf_35_L3 N X Q 0 (Int32.ofNat (m + 1)) g1)) := by
        unfold cf_35_44 cf_35_53 cf_35_56 cf_35_63 cf_35_66 cf_35_70
        simp (disch := omega) only [ev_S, ev_C, ↓reduceIte, Nat.reduceEqDiff, Nat.reduceLeDiff, Nat.reduceAdd, Nat.reduceMul, Nat.reduceSub, reduceCtorEq, l32_0, l32_1, l32_2, l32_3, l32_4, l32_5, l32_6, l32_7, l32_8, l32_9, l32_10, l32_11, l32_12, l32_13, l32_14, l32_15, l32_16, l32_17, l32_18, l32_19, l32_20, l32_21, l32_22, l32_23, l32_24, l32_25, l32_26, l32_27, l32_28, l32_29, l32_33, l32_40, l32_41, l32_44, l32_45, l32_59, l32_61, l32_91, l32_93, l32_123, l32_125, c_count, hcnt, hm1, c_kindNow, e5, z2]
      rw [hR]
      rcases p_fun hN hX hY hZ h (fun _ => z) with ⟨t1, s1, k1, i1, code1, cl1, Fs1, a1, a2, a3, a4, a5, a6⟩ | ⟨t1, s1, k1, a1, a2, a3, a4, a5⟩
      · rw [a1]
        show (∃ t' s' k i' code' cl' Fs', cf_35_L3 N X Q 0 (Int32.ofNat (m + 1)) t1 = _ ∧ _) ∨ (∃ t' s' k, cf_35_L3 N X Q 0 (Int32.ofNat (m + 1)) t1 = _ ∧ _)
        rcases ih i1 code1 cl1 Fs1 t1 s1 (m + 1) Q (by omega) a5 (by omega) (by omega) with ⟨t2, s2, k2, i2, code2, cl2, Fs2, b1, b2, b3, b4, b5⟩ | ⟨t2, s2, k2, b1, b2, b3, b4, b5⟩
        · refine Or.inl ⟨t2, s2, k2 + k1, i2, code2, cl2, Fs2, b1, by omega, fun f => ?_, b4, a6.tr b5⟩
          rw [← Nat.add_assoc, a4, b3]
        · refine Or.inr ⟨t2, s2, k2 + k1, b1, by omega, fun f => ?_, b4, a6.pre b5⟩
          rw [← Nat.add_assoc, a4, b3]
      · exact Or.inr ⟨t1, s1, k1, by rw [a1]; rfl, a2, a3, a4, a5⟩
end TXT
