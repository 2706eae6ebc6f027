/-! ===== PURE: run (8): a part is measured ===== -/
section MEP
variable {N : Nat} {F d a i n D B : Nat} {s : mS} {l : List (Th n)}
abbrev meS (s : mS) (D d i b : Nat) : mS := mI (nxt (mI s 56 (Int32.ofNat (mx2 D (d + 1)))) d i) 57 (Int32.ofNat b)
theorem me_part (hN : 170000 ≤ N) (hF : F ≤ 166300) (hd : d + 1 < 8) (hD : D < 100) (h55 : s.1 55 = Int32.ofNat (d + 1)) (h56 : s.1 56 = Int32.ofNat D) (h57 : s.1 57 = Int32.ofNat B) (h52 : s.2.2.1 52 d = Int32.ofNat a) (h54 : s.2.2.1 54 d = Int32.ofNat i) (H : Wy (s.2.2.1 47) a (LayN (s.2.2.1 47) (Rf F)) (vP n l)) (ha : a + wV wn (vP n l) ≤ 166300) (hi : i < l.length) :
    (∀ z, intT n l[i] = some z → ∀ f, mf_298_L1 N (f + 1) 0 s = mf_298_L1 N f 0 (meS s D d i (B + 1))) ∧
    (intT n l[i] = none → ¬ kdV (vw ⟨n, l[i]⟩) = 3 → ∀ f, mf_298_L1 N (f + 1) 0 s = mf_298_L1 N f 0 (meS s D d i (B + pbV (vw ⟨n, l[i]⟩)))) ∧
    (intT n l[i] = none → kdV (vw ⟨n, l[i]⟩) = 3 → ∃ c, LayN (s.2.2.1 47) (Rf F) c ⟨n, l[i]⟩ ∧ ∀ f, mf_298_L1 N (f + 1) 0 s = mf_298_L1 N f 0 (gin (meS s D d i (B + 1)) (d + 1) c 0)) := by
  obtain ⟨s2, hs2⟩ : ∃ s2, s2 = nxt (mI s 56 (Int32.ofNat (mx2 D (d + 1)))) d i := ⟨_, rfl⟩
  have e47 : s2.2.2.1 47 = s.2.2.1 47 := by rw [hs2]; rfl
  have e57 : s2.1 57 = Int32.ofNat B := by rw [hs2]; exact h57
  have e55 : s2.1 55 = Int32.ofNat (d + 1) := by rw [hs2]; exact h55
  have H2 : Wy (s2.2.2.1 47) a (LayN (s2.2.2.1 47) (Rf F)) (vP n l) := by rw [e47]; exact H
  have ii := r_isInt (N := N) H2 ha hi
  have pre : ∀ f, mf_298_L1 N (f + 1) 0 s = mo_bi (mf_293 N (Int32.ofNat a) (Int32.ofNat i) s2) (fun s1 y => mf_298_144 N (mf_298_L1 N f) (Int32.ofNat a) (Int32.ofNat i) y s1) := fun f => by
    rw [me_top (by omega) hD h55 h56 h52 h54 H ha, hs2]
    unfold mf_298_111
    have hwa : a + (2 + 2 * l.length) ≤ 166300 := ha
    rw [if_pos (fun z => by have := ofNat_inj (by omega) (by omega) z; omega)]
    unfold mf_298_127
    have h54' : (mI s 56 (Int32.ofNat (mx2 D (d + 1)))).2.2.1 54 d = Int32.ofNat i := h54
    generalize mI s 56 (Int32.ofNat (mx2 D (d + 1))) = s1 at *
    simp (disch := omega) only [ev_S, ev_P, ↓reduceIte, Nat.reduceEqDiff, Nat.reduceLeDiff, Nat.reduceAdd, Nat.reduceMul, Nat.reduceSub, reduceCtorEq, l32_0, l32_1, l32_2, l32_3, l32_4, l32_5, l32_6, l32_7, l32_8, l32_9, l32_10, l32_11, l32_12, l32_13, l32_14, l32_15, l32_16, l32_17, l32_18, l32_19, l32_20, l32_21, l32_22, l32_23, l32_24, l32_25, l32_26, l32_27, l32_28, l32_29, l32_33, l32_40, l32_41, l32_44, l32_45, l32_59, l32_61, l32_91, l32_93, l32_123, l32_125, h54']
  refine ⟨fun z hz f => ?_, fun hz hk f => ?_, fun hz hk => ?_⟩
  · rw [hz] at ii
    have ii : mf_293 N (Int32.ofNat a) (Int32.ofNat i) s2 = some (s2, some (.int 1)) := ii
    rw [pre, ii]
    show mf_298_144 N (mf_298_L1 N f) (Int32.ofNat a) (Int32.ofNat i) 1 s2 = _
    unfold mf_298_144
    rw [if_neg (by decide)]
    unfold mf_298_147 mf_298_221
    rw [e57, hs2, show Int32.ofNat B + 1 = Int32.ofNat (B + 1) from i32al]
  · rw [hz] at ii
    have ii : mf_293 N (Int32.ofNat a) (Int32.ofNat i) s2 = some (s2, some (.int 0)) := ii
    obtain ⟨c, c1, c2⟩ := r_partP (N := N) H2 ha hi hz
    have hc := (LayN.lt c2).1
    have hc2 := (LayN.lt c2).2
    have k1 := ((LayN_iff.mp c2).2).kd.1
    have pb := r_plainBulk hN c2 hF hk
    have hc3 : c < 166300 := by omega
    have gd : ¬ (Int32.ofNat c < 0 ∨ 166300 ≤ Int32.toNatClampNeg (Int32.ofNat c)) := fun q => q.elim (fun q => i32n (by omega) q) (fun q => by rw [ev_S.1 (by omega)] at q; omega)
    rw [pre, ii]
    show mf_298_144 N (mf_298_L1 N f) (Int32.ofNat a) (Int32.ofNat i) 0 s2 = _
    unfold mf_298_144
    rw [if_pos rfl]
    unfold mf_298_160
    rw [c1]
    show mf_298_171 N (mf_298_L1 N f) (Int32.ofNat a) (Int32.ofNat i) (Int32.ofNat c) s2 = _
    unfold mf_298_171
    rw [if_pos gd, ev_S.1 (by omega), k1, if_pos hk]
    unfold mf_298_201
    rw [c1]
    show mf_298_214 N (mf_298_L1 N f) (s2.1 57) (Int32.ofNat c) s2 = _
    unfold mf_298_214
    rw [pb, e57]
    show mf_298_217 N (mf_298_L1 N f) (Int32.ofNat B) (Int32.ofNat _) s2 = _
    unfold mf_298_217 mf_298_221
    rw [← Int32.ofNat_add, hs2]
  · rw [hz] at ii
    have ii : mf_293 N (Int32.ofNat a) (Int32.ofNat i) s2 = some (s2, some (.int 0)) := ii
    obtain ⟨c, c1, c2⟩ := r_partP (N := N) H2 ha hi hz
    have hc := (LayN.lt c2).1
    have hc2 := (LayN.lt c2).2
    have k1 := ((LayN_iff.mp c2).2).kd.1
    have gd : ¬ (Int32.ofNat c < 0 ∨ 166300 ≤ Int32.toNatClampNeg (Int32.ofNat c)) := fun q => q.elim (fun q => i32n (by omega) q) (fun q => by rw [ev_S.1 (by omega)] at q; omega)
    obtain ⟨s3, hs3⟩ : ∃ s3, s3 = mI s2 57 (Int32.ofNat (B + 1)) := ⟨_, rfl⟩
    have H3 : Wy (s3.2.2.1 47) a (LayN (s3.2.2.1 47) (Rf F)) (vP n l) := by rw [hs3]; exact H2
    obtain ⟨-, c', y1, y2⟩ := (H2.2.2 i hi).2 hz
    have hwa : a + (2 + 2 * l.length) ≤ 166300 := ha
    have z1 := r_partE (N := N) (s := s2) (a := a) (i := i) (c := c') (by omega) H2.1 y1
    have z2 := r_partE (N := N) (s := s3) (a := a) (i := i) (c := c') (by omega) H3.1 (by rw [hs3]; exact y1)
    have c1' : mf_294 N (Int32.ofNat a) (Int32.ofNat i) s3 = some (s3, some (.int (Int32.ofNat c))) := by
      rw [z2]
      rw [z1] at c1
      simp only [Option.some.injEq, Prod.mk.injEq, Value.int.injEq, true_and] at c1
      rw [c1]
    have gi := r_goesIn (N := N) (s := s3) (d := d + 1) (a := c) (b := 0) hd (by rw [hs3]; exact e55)
    refine ⟨c, by rw [← e47]; exact c2, fun f => ?_⟩
    rw [pre, ii]
    show mf_298_144 N (mf_298_L1 N f) (Int32.ofNat a) (Int32.ofNat i) 0 s2 = _
    unfold mf_298_144
    rw [if_pos rfl]
    unfold mf_298_160
    rw [c1]
    show mf_298_171 N (mf_298_L1 N f) (Int32.ofNat a) (Int32.ofNat i) (Int32.ofNat c) s2 = _
    unfold mf_298_171
    rw [if_pos gd, ev_S.1 (by omega), k1, if_neg (fun z => z hk)]
    unfold mf_298_176
    rw [e57, show Int32.ofNat B + 1 = Int32.ofNat (B + 1) from i32al, ← hs3, c1']
    show mf_298_194 N (mf_298_L1 N f) (Int32.ofNat c) s3 = _
    unfold mf_298_194
    show mo_bv (mf_296 N (Int32.ofNat c) (Int32.ofNat 0) s3) _ = _
    rw [gi]
    show mf_298_L1 N f 0 (gin s3 (d + 1) c 0) = _
    rw [hs3, hs2]
end MEP
