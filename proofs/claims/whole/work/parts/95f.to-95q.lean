-- ### 95f.pure.lean.txt
section
/-! ===== PURE: run (7): a THING is measured (the reference's stack) ===== -/
section MEA
variable {N : Nat} {R : Nat → Prop} {d a i n D : Nat} {s : mS} {l : List (Th n)} {P : Nat → Nod → Prop}
abbrev mx2 (a b : Nat) : Nat := if b ≤ a then a else b
theorem me_top (hd : d < 8) (hD : D < 100) (h55 : s.1 55 = Int32.ofNat (d + 1)) (h56 : s.1 56 = Int32.ofNat D) (h52 : s.2.2.1 52 d = Int32.ofNat a) (h54 : s.2.2.1 54 d = Int32.ofNat i) (H : Wy (s.2.2.1 47) a P (vP n l)) (ha : a + wV wn (vP n l) ≤ 166300) (f : Nat) : mf_298_L1 N (f + 1) 0 s = mf_298_111 N (mf_298_L1 N f) (Int32.ofNat d) (Int32.ofNat a) (Int32.ofNat i) (Int32.ofNat i) (Int32.ofNat l.length) (mI s 56 (Int32.ofNat (mx2 D (d + 1)))) := by
  have hz : ∀ y, mf_77 N (Int32.ofNat a) (mI s 56 y) = some (mI s 56 y, some (.int (Int32.ofNat l.length))) := fun y => r_size (N := N) (s := mI s 56 y) (v := vP n l) H ha
  show mf_298_49 N (mf_298_L1 N f) s = _
  have n0 : ¬ d + 1 ≤ 0 := by omega
  unfold mf_298_49
  simp (disch := omega) only [ev_S, ev_P, ↓reduceIte, Nat.reduceEqDiff, Nat.reduceLeDiff, Nat.reduceAdd, Nat.reduceMul, Nat.reduceSub, reduceCtorEq, l32_0, l32_1, l32_2, l32_3, l32_4, l32_5, l32_6, l32_7, l32_8, l32_9, l32_10, l32_11, l32_12, l32_13, l32_14, l32_15, l32_16, l32_17, l32_18, l32_19, l32_20, l32_21, l32_22, l32_23, l32_24, l32_25, l32_26, l32_27, l32_28, l32_29, l32_33, l32_40, l32_41, l32_44, l32_45, l32_59, l32_61, l32_91, l32_93, l32_123, l32_125, h55]
  unfold mf_298_56
  by_cases c : d + 1 ≤ D
  · rw [show mx2 D (d + 1) = D from if_pos c]
    simp (disch := omega) only [ev_S, ev_P, ↓reduceIte, Nat.reduceEqDiff, Nat.reduceLeDiff, Nat.reduceAdd, Nat.reduceMul, Nat.reduceSub, reduceCtorEq, l32_0, l32_1, l32_2, l32_3, l32_4, l32_5, l32_6, l32_7, l32_8, l32_9, l32_10, l32_11, l32_12, l32_13, l32_14, l32_15, l32_16, l32_17, l32_18, l32_19, l32_20, l32_21, l32_22, l32_23, l32_24, l32_25, l32_26, l32_27, l32_28, l32_29, l32_33, l32_40, l32_41, l32_44, l32_45, l32_59, l32_61, l32_91, l32_93, l32_123, l32_125, h55, h56, h52, h54, c]
    unfold mf_298_97 mf_298_101
    simp (disch := omega) only [ev_S, ev_P, ↓reduceIte, Nat.reduceEqDiff, Nat.reduceLeDiff, Nat.reduceAdd, Nat.reduceMul, Nat.reduceSub, reduceCtorEq, l32_0, l32_1, l32_2, l32_3, l32_4, l32_5, l32_6, l32_7, l32_8, l32_9, l32_10, l32_11, l32_12, l32_13, l32_14, l32_15, l32_16, l32_17, l32_18, l32_19, l32_20, l32_21, l32_22, l32_23, l32_24, l32_25, l32_26, l32_27, l32_28, l32_29, l32_33, l32_40, l32_41, l32_44, l32_45, l32_59, l32_61, l32_91, l32_93, l32_123, l32_125, h56, hz]
  · rw [show mx2 D (d + 1) = d + 1 from if_neg c]
    simp (disch := omega) only [ev_S, ev_P, ↓reduceIte, Nat.reduceEqDiff, Nat.reduceLeDiff, Nat.reduceAdd, Nat.reduceMul, Nat.reduceSub, reduceCtorEq, l32_0, l32_1, l32_2, l32_3, l32_4, l32_5, l32_6, l32_7, l32_8, l32_9, l32_10, l32_11, l32_12, l32_13, l32_14, l32_15, l32_16, l32_17, l32_18, l32_19, l32_20, l32_21, l32_22, l32_23, l32_24, l32_25, l32_26, l32_27, l32_28, l32_29, l32_33, l32_40, l32_41, l32_44, l32_45, l32_59, l32_61, l32_91, l32_93, l32_123, l32_125, h55, h56, h52, h54, c]
    unfold mf_298_90 mf_298_101
    simp (disch := omega) only [ev_S, ev_P, ↓reduceIte, Nat.reduceEqDiff, Nat.reduceLeDiff, Nat.reduceAdd, Nat.reduceMul, Nat.reduceSub, reduceCtorEq, l32_0, l32_1, l32_2, l32_3, l32_4, l32_5, l32_6, l32_7, l32_8, l32_9, l32_10, l32_11, l32_12, l32_13, l32_14, l32_15, l32_16, l32_17, l32_18, l32_19, l32_20, l32_21, l32_22, l32_23, l32_24, l32_25, l32_26, l32_27, l32_28, l32_29, l32_33, l32_40, l32_41, l32_44, l32_45, l32_59, l32_61, l32_91, l32_93, l32_123, l32_125, h55, hz]
theorem me_end (hd : d < 8) (hD : D < 100) (h55 : s.1 55 = Int32.ofNat (d + 1)) (h56 : s.1 56 = Int32.ofNat D) (h52 : s.2.2.1 52 d = Int32.ofNat a) (h54 : s.2.2.1 54 d = Int32.ofNat l.length) (H : Wy (s.2.2.1 47) a P (vP n l)) (ha : a + wV wn (vP n l) ≤ 166300) (f : Nat) : mf_298_L1 N (f + 1) 0 s = mf_298_L1 N f 0 (mI (mI s 56 (Int32.ofNat (mx2 D (d + 1)))) 55 (Int32.ofNat d)) := by
  rw [me_top hd hD h55 h56 h52 h54 H ha]
  unfold mf_298_111
  rw [if_neg (fun z => z rfl)]
  unfold mf_298_114
  rw [show (mI s 56 (Int32.ofNat (mx2 D (d + 1)))).1 55 = Int32.ofNat (d + 1) from h55, i32sub (Nat.succ_pos d)]
  rfl
end MEA
end
-- ### 95g.pure.lean.txt
section
/-! ===== PURE: run (8): a part is measured ===== -/
section MEP
variable {N : Nat} {F d a i n D B : Nat} {s : mS} {l : List (Th n)}
abbrev meS (s : mS) (D d i b : Nat) : mS := mI (nxt (mI s 56 (Int32.ofNat (mx2 D (d + 1)))) d i) 57 (Int32.ofNat b)
theorem me_part (hN : 170000 ≤ N) (hF : F ≤ 166300) (hd : d + 1 < 8) (hD : D < 100) (h55 : s.1 55 = Int32.ofNat (d + 1)) (h56 : s.1 56 = Int32.ofNat D) (h57 : s.1 57 = Int32.ofNat B) (h52 : s.2.2.1 52 d = Int32.ofNat a) (h54 : s.2.2.1 54 d = Int32.ofNat i) (H : Wy (s.2.2.1 47) a (LayN (s.2.2.1 47) (Rf F)) (vP n l)) (ha : a + wV wn (vP n l) ≤ 166300) (hi : i < l.length) :
    (∀ z, intT n l[i] = some z → ∀ f, mf_298_L1 N (f + 1) 0 s = mf_298_L1 N f 0 (meS s D d i (B + 1))) ∧
    (intT n l[i] = none → ¬ kdV (vw ⟨n, l[i]⟩) = 3 → ∀ f, mf_298_L1 N (f + 1) 0 s = mf_298_L1 N f 0 (meS s D d i (B + pbV (vw ⟨n, l[i]⟩)))) ∧
    (intT n l[i] = none → kdV (vw ⟨n, l[i]⟩) = 3 → ∃ c, LayN (s.2.2.1 47) (Rf F) c ⟨n, l[i]⟩ ∧ ∀ f, mf_298_L1 N (f + 1) 0 s = mf_298_L1 N f 0 (gin (meS s D d i (B + 1)) (d + 1) c 0)) := by
  obtain ⟨s2, hs2⟩ : ∃ s2, s2 = nxt (mI s 56 (Int32.ofNat (mx2 D (d + 1)))) d i := ⟨_, rfl⟩
  have e47 : s2.2.2.1 47 = s.2.2.1 47 := by rw [hs2]; rfl
  have e57 : s2.1 57 = Int32.ofNat B := by rw [hs2]; exact h57
  have e55 : s2.1 55 = Int32.ofNat (d + 1) := by rw [hs2]; exact h55
  have H2 : Wy (s2.2.2.1 47) a (LayN (s2.2.2.1 47) (Rf F)) (vP n l) := by rw [e47]; exact H
  have ii := r_isInt (N := N) H2 ha hi
  have pre : ∀ f, mf_298_L1 N (f + 1) 0 s = mo_bi (mf_293 N (Int32.ofNat a) (Int32.ofNat i) s2) (fun s1 y => mf_298_144 N (mf_298_L1 N f) (Int32.ofNat a) (Int32.ofNat i) y s1) := fun f => by
    rw [me_top (by omega) hD h55 h56 h52 h54 H ha, hs2]
    unfold mf_298_111
    have hwa : a + (2 + 2 * l.length) ≤ 166300 := ha
    rw [if_pos (fun z => by have := ofNat_inj (by omega) (by omega) z; omega)]
    unfold mf_298_127
    have h54' : (mI s 56 (Int32.ofNat (mx2 D (d + 1)))).2.2.1 54 d = Int32.ofNat i := h54
    generalize mI s 56 (Int32.ofNat (mx2 D (d + 1))) = s1 at *
    simp (disch := omega) only [ev_S, ev_P, ↓reduceIte, Nat.reduceEqDiff, Nat.reduceLeDiff, Nat.reduceAdd, Nat.reduceMul, Nat.reduceSub, reduceCtorEq, l32_0, l32_1, l32_2, l32_3, l32_4, l32_5, l32_6, l32_7, l32_8, l32_9, l32_10, l32_11, l32_12, l32_13, l32_14, l32_15, l32_16, l32_17, l32_18, l32_19, l32_20, l32_21, l32_22, l32_23, l32_24, l32_25, l32_26, l32_27, l32_28, l32_29, l32_33, l32_40, l32_41, l32_44, l32_45, l32_59, l32_61, l32_91, l32_93, l32_123, l32_125, h54']
  refine ⟨fun z hz f => ?_, fun hz hk f => ?_, fun hz hk => ?_⟩
  · rw [hz] at ii
    have ii : mf_293 N (Int32.ofNat a) (Int32.ofNat i) s2 = some (s2, some (.int 1)) := ii
    rw [pre, ii]
    show mf_298_144 N (mf_298_L1 N f) (Int32.ofNat a) (Int32.ofNat i) 1 s2 = _
    unfold mf_298_144
    rw [if_neg (by decide)]
    unfold mf_298_147 mf_298_221
    rw [e57, hs2, show Int32.ofNat B + 1 = Int32.ofNat (B + 1) from i32al]
  · rw [hz] at ii
    have ii : mf_293 N (Int32.ofNat a) (Int32.ofNat i) s2 = some (s2, some (.int 0)) := ii
    obtain ⟨c, c1, c2⟩ := r_partP (N := N) H2 ha hi hz
    have hc := (LayN.lt c2).1
    have hc2 := (LayN.lt c2).2
    have k1 := ((LayN_iff.mp c2).2).kd.1
    have pb := r_plainBulk hN c2 hF hk
    have hc3 : c < 166300 := by omega
    have gd : ¬ (Int32.ofNat c < 0 ∨ 166300 ≤ Int32.toNatClampNeg (Int32.ofNat c)) := fun q => q.elim (fun q => i32n (by omega) q) (fun q => by rw [ev_S.1 (by omega)] at q; omega)
    rw [pre, ii]
    show mf_298_144 N (mf_298_L1 N f) (Int32.ofNat a) (Int32.ofNat i) 0 s2 = _
    unfold mf_298_144
    rw [if_pos rfl]
    unfold mf_298_160
    rw [c1]
    show mf_298_171 N (mf_298_L1 N f) (Int32.ofNat a) (Int32.ofNat i) (Int32.ofNat c) s2 = _
    unfold mf_298_171
    rw [if_pos gd, ev_S.1 (by omega), k1, if_pos hk]
    unfold mf_298_201
    rw [c1]
    show mf_298_214 N (mf_298_L1 N f) (s2.1 57) (Int32.ofNat c) s2 = _
    unfold mf_298_214
    rw [pb, e57]
    show mf_298_217 N (mf_298_L1 N f) (Int32.ofNat B) (Int32.ofNat _) s2 = _
    unfold mf_298_217 mf_298_221
    rw [← Int32.ofNat_add, hs2]
  · rw [hz] at ii
    have ii : mf_293 N (Int32.ofNat a) (Int32.ofNat i) s2 = some (s2, some (.int 0)) := ii
    obtain ⟨c, c1, c2⟩ := r_partP (N := N) H2 ha hi hz
    have hc := (LayN.lt c2).1
    have hc2 := (LayN.lt c2).2
    have k1 := ((LayN_iff.mp c2).2).kd.1
    have gd : ¬ (Int32.ofNat c < 0 ∨ 166300 ≤ Int32.toNatClampNeg (Int32.ofNat c)) := fun q => q.elim (fun q => i32n (by omega) q) (fun q => by rw [ev_S.1 (by omega)] at q; omega)
    obtain ⟨s3, hs3⟩ : ∃ s3, s3 = mI s2 57 (Int32.ofNat (B + 1)) := ⟨_, rfl⟩
    have H3 : Wy (s3.2.2.1 47) a (LayN (s3.2.2.1 47) (Rf F)) (vP n l) := by rw [hs3]; exact H2
    obtain ⟨-, c', y1, y2⟩ := (H2.2.2 i hi).2 hz
    have hwa : a + (2 + 2 * l.length) ≤ 166300 := ha
    have z1 := r_partE (N := N) (s := s2) (a := a) (i := i) (c := c') (by omega) H2.1 y1
    have z2 := r_partE (N := N) (s := s3) (a := a) (i := i) (c := c') (by omega) H3.1 (by rw [hs3]; exact y1)
    have c1' : mf_294 N (Int32.ofNat a) (Int32.ofNat i) s3 = some (s3, some (.int (Int32.ofNat c))) := by
      rw [z2]
      rw [z1] at c1
      simp only [Option.some.injEq, Prod.mk.injEq, Value.int.injEq, true_and] at c1
      rw [c1]
    have gi := r_goesIn (N := N) (s := s3) (d := d + 1) (a := c) (b := 0) hd (by rw [hs3]; exact e55)
    refine ⟨c, by rw [← e47]; exact c2, fun f => ?_⟩
    rw [pre, ii]
    show mf_298_144 N (mf_298_L1 N f) (Int32.ofNat a) (Int32.ofNat i) 0 s2 = _
    unfold mf_298_144
    rw [if_pos rfl]
    unfold mf_298_160
    rw [c1]
    show mf_298_171 N (mf_298_L1 N f) (Int32.ofNat a) (Int32.ofNat i) (Int32.ofNat c) s2 = _
    unfold mf_298_171
    rw [if_pos gd, ev_S.1 (by omega), k1, if_neg (fun z => z hk)]
    unfold mf_298_176
    rw [e57, show Int32.ofNat B + 1 = Int32.ofNat (B + 1) from i32al, ← hs3, c1']
    show mf_298_194 N (mf_298_L1 N f) (Int32.ofNat c) s3 = _
    unfold mf_298_194
    show mo_bv (mf_296 N (Int32.ofNat c) (Int32.ofNat 0) s3) _ = _
    rw [gi]
    show mf_298_L1 N f 0 (gin s3 (d + 1) c 0) = _
    rw [hs3, hs2]
end MEP
end
-- ### 95h.pure.lean.txt
section
/-! ===== PURE: run (9): all of a PACK is measured ===== -/
abbrev fMe (s s' : mS) : Prop := mfr (fun q => q = 55 ∨ q = 56 ∨ q = 57) (fun _ => False) (fun q => q = 52 ∨ q = 53 ∨ q = 54) (fun _ => False) s s'
def MeP (N F n d : Nat) (l : List (Th n)) (i : Nat) : Prop := ∀ (a : Nat) (s : mS) (D B : Nat), D ≤ 10 → s.1 55 = Int32.ofNat (d + 1) → s.1 56 = Int32.ofNat D → s.1 57 = Int32.ofNat B → s.2.2.1 52 d = Int32.ofNat a → s.2.2.1 54 d = Int32.ofNat i → Wy (s.2.2.1 47) a (LayN (s.2.2.1 47) (Rf F)) (vP n l) → a + wV wn (vP n l) ≤ 166300 → ∃ k s', k ≤ 2 * ((l.drop i).map (bulk n)).sum + 1 ∧ (∀ f, mf_298_L1 N (f + k) 0 s = mf_298_L1 N f 0 s') ∧ s'.1 55 = Int32.ofNat d ∧ s'.1 56 = Int32.ofNat (max D (d + 1 + mxL ((l.drop i).map (dT n)))) ∧ s'.1 57 = Int32.ofNat (B + ((l.drop i).map (bulk n)).sum) ∧ (∀ j, j < d → s'.2.2.1 52 j = s.2.2.1 52 j ∧ s'.2.2.1 54 j = s.2.2.1 54 j) ∧ fMe s s'
section MED
variable {N F : Nat}
theorem mx2_max (a b : Nat) : mx2 a b = max a b := by
  unfold mx2
  split <;> omega
theorem vw_pack : ∀ {n : Nat} {x : Th n}, kdV (vw ⟨n, x⟩) = 3 → ∃ (m : Nat) (l : List (Th m)), n = m + 1 ∧ vw ⟨n, x⟩ = vP m l ∧ bulk n x = 1 + (l.map (bulk m)).sum ∧ dT n x = 1 + mxL (l.map (dT m))
  | 0, .inl z, h => absurd h (by show ¬ (0 : Int32) = 3; decide)
  | 0, .inr (.inl r), h => absurd h (by show ¬ (1 : Int32) = 3; decide)
  | 0, .inr (.inr q), h => absurd h (by show ¬ (2 : Int32) = 3; decide)
  | m + 1, .inl (.inl z), h => absurd h (by show ¬ (0 : Int32) = 3; decide)
  | m + 1, .inl (.inr (.inl r)), h => absurd h (by show ¬ (1 : Int32) = 3; decide)
  | m + 1, .inl (.inr (.inr q)), h => absurd h (by show ¬ (2 : Int32) = 3; decide)
  | m + 1, .inr l, h => ⟨m, l, rfl, rfl, rfl, rfl⟩
theorem me_list (hN : 170000 ≤ N) (hF : F ≤ 166300) {n d : Nat} (hd : d ≤ 3) (l : List (Th n)) (hp : ∀ m (l' : List (Th m)), n = m + 1 → MeP N F m (d + 1) l' 0) (hn : n + d ≤ 3) : ∀ (j i : Nat), i + j = l.length → MeP N F n d l i := by
  intro j
  induction j with
  | zero =>
    intro i hi a s D B hD h55 h56 h57 h52 h54 H ha
    have hi : i = l.length := hi
    subst hi
    rw [List.drop_length]
    refine ⟨1, _, by show 1 ≤ 2 * 0 + 1; omega, fun f => me_end (by omega) (by omega) h55 h56 h52 h54 H ha f, rfl, ?_, h57, fun _ _ => ⟨rfl, rfl⟩, ⟨fun q r => ?_, fun _ _ => rfl, fun _ _ => rfl, fun _ _ => rfl⟩⟩
    · show Int32.ofNat (mx2 D (d + 1)) = Int32.ofNat (max D (d + 1 + 0))
      rw [mx2_max]
    · show (if q = 55 then _ else if q = 56 then _ else s.1 q) = _
      rw [if_neg (by omega), if_neg (by omega)]
  | succ j ih =>
    intro i hi a s D B hD h55 h56 h57 h52 h54 H ha
    have hi1 : i < l.length := by omega
    obtain ⟨p1, p2, p3⟩ := me_part (N := N) hN hF (by omega) (by omega) h55 h56 h57 h52 h54 H ha hi1
    have hdr : l.drop i = l[i] :: l.drop (i + 1) := List.drop_eq_getElem_cons hi1
    have hm : mxL ((l.drop i).map (dT n)) = max (dT n l[i]) (mxL ((l.drop (i + 1)).map (dT n))) := by
      rw [hdr]
      rfl
    have hb : ((l.drop i).map (bulk n)).sum = bulk n l[i] + ((l.drop (i + 1)).map (bulk n)).sum := by
      rw [hdr, List.map_cons, List.sum_cons]
    have hdt := dT_le n l[i]
    have hbl : 1 ≤ bulk n l[i] := by
      have : bulk n l[i] = bulkV (vw ⟨n, l[i]⟩) := vw_bulk ⟨n, l[i]⟩
      rw [this]
      cases vw ⟨n, l[i]⟩ with
      | inl z => exact Nat.le_refl _
      | inr v => rcases v with r | q | l'
                 · exact Nat.le_add_right _ _
                 · exact Nat.le_add_right _ _
                 · exact Nat.le_add_right _ _
    rw [hm, hb]
    -- a part that is no PACK: one round
    have flat : ∀ b, b = bulk n l[i] → dT n l[i] = 0 → (∀ f, mf_298_L1 N (f + 1) 0 s = mf_298_L1 N f 0 (meS s D d i (B + b))) → ∃ k s', k ≤ 2 * (bulk n l[i] + ((l.drop (i + 1)).map (bulk n)).sum) + 1 ∧ (∀ f, mf_298_L1 N (f + k) 0 s = mf_298_L1 N f 0 s') ∧ s'.1 55 = Int32.ofNat d ∧ s'.1 56 = Int32.ofNat (max D (d + 1 + max (dT n l[i]) (mxL ((l.drop (i + 1)).map (dT n))))) ∧ s'.1 57 = Int32.ofNat (B + (bulk n l[i] + ((l.drop (i + 1)).map (bulk n)).sum)) ∧ (∀ j, j < d → s'.2.2.1 52 j = s.2.2.1 52 j ∧ s'.2.2.1 54 j = s.2.2.1 54 j) ∧ fMe s s' := fun b hb0 hd0 hr => by
      obtain ⟨k, s', a1, a2, a3, a4, a5, a6, a7⟩ := ih (i + 1) (by omega) a (meS s D d i (B + b)) (mx2 D (d + 1)) (B + b) (by rw [mx2_max]; omega) h55 rfl rfl h52 (if_pos rfl) H ha
      refine ⟨k + 1, s', by omega, fun f => ?_, a3, ?_, ?_, fun y hy => ⟨(a6 y hy).1, (a6 y hy).2.trans ?_⟩, mfr.tr (s1 := meS s D d i (B + b)) ⟨fun q r => ?_, fun _ _ => rfl, fun q r => ?_, fun _ _ => rfl⟩ a7⟩
      · rw [← Nat.add_assoc, hr, a2]
      · rw [a4, mx2_max, hd0]
        congr 1
        omega
      · rw [a5, hb0, Nat.add_assoc]
      · exact if_neg (by omega)
      · show (if q = 57 then _ else if q = 56 then _ else s.1 q) = _
        rw [if_neg (by omega), if_neg (by omega)]
      · exact if_neg (by omega)
    have hbv : bulk n l[i] = bulkV (vw ⟨n, l[i]⟩) := vw_bulk ⟨n, l[i]⟩
    have iv : intT n l[i] = intV (vw ⟨n, l[i]⟩) := vw_int ⟨n, l[i]⟩
    cases hz : intT n l[i] with
    | some z =>
      have ev := intV_s (iv.symm.trans hz)
      refine flat 1 (by rw [hbv, ev]; rfl) (dN_0 (x := ⟨n, l[i]⟩) (by rw [ev]; show ¬ (0 : Int32) = 3; decide)) (p1 z hz)
    | none =>
      by_cases hk : kdV (vw ⟨n, l[i]⟩) = 3
      · obtain ⟨c, c1, c2⟩ := p3 hz hk
        obtain ⟨m, l', e1, e2, e3, e4⟩ := vw_pack hk
        have Lc := LayN_iff.mp c1
        have hlt := (LayN.lt c1).1
        rw [e2] at Lc hlt
        obtain ⟨k1, s1, b1, b2, b3, b4, b5, b6, b7⟩ := hp m l' e1 c (gin (meS s D d i (B + 1)) (d + 1) c 0) (mx2 D (d + 1)) (B + 1) (by rw [mx2_max]; omega) rfl rfl rfl (if_pos rfl) (if_pos rfl) Lc.2 (by omega)
        rw [List.drop_zero] at b1 b4 b5
        have g47 : s1.2.2.1 47 = s.2.2.1 47 := b7.2.2.1 47 (by decide)
        have g52 := (b6 d (by omega)).1
        have g54 := (b6 d (by omega)).2
        obtain ⟨k2, s2, d1, d2, d3, d4, d5, d6, d7⟩ := ih (i + 1) (by omega) a s1 _ _ (by rw [mx2_max]; omega) b3 b4 b5 (g52.trans ((if_neg (by omega)).trans h52)) (g54.trans ((if_neg (by omega)).trans (if_pos rfl))) (by rw [g47]; exact H) ha
        refine ⟨k2 + k1 + 1, s2, by omega, fun f => ?_, d3, ?_, ?_, fun y hy => ⟨(d6 y hy).1.trans ((b6 y (by omega)).1.trans (if_neg (by omega))), (d6 y hy).2.trans ((b6 y (by omega)).2.trans ((if_neg (by omega)).trans (if_neg (by omega))))⟩, mfr.tr (s1 := s1) (mfr.tr (s1 := gin (meS s D d i (B + 1)) (d + 1) c 0) ⟨fun q r => ?_, fun _ _ => rfl, fun q r => ?_, fun _ _ => rfl⟩ b7) d7⟩
        · rw [show f + (k2 + k1 + 1) = (f + k2 + k1) + 1 by omega, c2, b2, d2]
        · rw [d4, mx2_max, e4]
          congr 1
          omega
        · rw [d5, e3]
          congr 1
          omega
        · show (if q = 55 then _ else if q = 57 then _ else if q = 56 then _ else s.1 q) = _
          rw [if_neg (by omega), if_neg (by omega), if_neg (by omega)]
        · show (if q = 54 then _ else if q = 53 then _ else if q = 52 then _ else if q = 54 then _ else s.2.2.1 q) = _
          rw [if_neg (by omega), if_neg (by omega), if_neg (by omega), if_neg (by omega)]
      · have hpb : pbV (vw ⟨n, l[i]⟩) = bulk n l[i] := by
          rw [hbv]
          rw [hz] at iv
          cases hv : vw ⟨n, l[i]⟩ with
          | inl z =>
            rw [hv] at iv
            cases iv
          | inr v =>
            rcases v with r | q | l'
            · rfl
            · rfl
            · rw [hv] at hk
              exact absurd rfl hk
        exact flat _ hpb (dN_0 (x := ⟨n, l[i]⟩) hk) (p2 hz hk)
theorem me_dfs (hN : 170000 ≤ N) (hF : F ≤ 166300) : ∀ (n d : Nat), n + d ≤ 3 → ∀ (l : List (Th n)) (j i : Nat), i + j = l.length → MeP N F n d l i := by
  intro n
  induction n with
  | zero => exact fun d hd l j i hj => me_list hN hF (by omega) l (fun m l' e => by omega) hd j i hj
  | succ n ih =>
    intro d hd l j i hj
    refine me_list hN hF (by omega) l (fun m l' e => ?_) hd j i hj
    have e : n = m := by omega
    subst e
    exact ih (d + 1) (by omega) l' l'.length 0 (Nat.zero_add _)
end MED
end
-- ### 95i.pure.lean.txt
section
/-! ===== PURE: run (10): measure ===== -/
section MEZ
variable {N F a : Nat} {s : mS} {x : Nod}
theorem me_0 {f : Nat} (h55 : s.1 55 = Int32.ofNat 0) : mf_298_L1 N (f + 1) 0 s = some (s, none) := by
  show mf_298_49 N (mf_298_L1 N f) s = _
  unfold mf_298_49 mf_298_224
  simp (disch := omega) only [ev_S, ev_P, ↓reduceIte, Nat.reduceEqDiff, Nat.reduceLeDiff, Nat.reduceAdd, Nat.reduceMul, Nat.reduceSub, reduceCtorEq, l32_0, l32_1, l32_2, l32_3, l32_4, l32_5, l32_6, l32_7, l32_8, l32_9, l32_10, l32_11, l32_12, l32_13, l32_14, l32_15, l32_16, l32_17, l32_18, l32_19, l32_20, l32_21, l32_22, l32_23, l32_24, l32_25, l32_26, l32_27, l32_28, l32_29, l32_33, l32_40, l32_41, l32_44, l32_45, l32_59, l32_61, l32_91, l32_93, l32_123, l32_125, h55]
theorem r_measure (hN : 170000 ≤ N) (hF : F ≤ 166300) (H : LayN (s.2.2.1 47) (Rf F) a x) (hx : x.1 ≤ 4) (hb : bulkN x ≤ 50000) : ∃ s', mf_298 N (Int32.ofNat a) s = some (s', none) ∧ s'.1 57 = Int32.ofNat (bulkN x) ∧ s'.1 56 = Int32.ofNat (dN x) ∧ fMe s s' := by
  obtain ⟨n, y⟩ := x
  have hlt := LayN.lt H
  have Lx := LayN_iff.mp H
  have k1 := Lx.2.kd.1
  have hbv : bulk n y = bulkV (vw ⟨n, y⟩) := vw_bulk ⟨n, y⟩
  have gd : ¬ (Int32.ofNat a < 0 ∨ 166300 ≤ Int32.toNatClampNeg (Int32.ofNat a)) := fun q => q.elim (fun q => i32n (by omega) q) (fun q => by rw [ev_S.1 (by omega)] at q; omega)
  obtain ⟨N1, hN1⟩ : ∃ N1, N = N1 + 1 := ⟨N - 1, by omega⟩
  by_cases hk : kdV (vw ⟨n, y⟩) = 3
  · obtain ⟨m, l', e1, e2, e3, e4⟩ := vw_pack hk
    rw [e2] at hlt Lx
    obtain ⟨s0, hs0⟩ : ∃ s0, s0 = mI (mI (mI s 56 (Int32.ofNat 0)) 57 (Int32.ofNat 1)) 55 (Int32.ofNat 0) := ⟨_, rfl⟩
    have gi := r_goesIn (N := N) (s := s0) (d := 0) (a := a) (b := 0) (by omega) (by rw [hs0]; rfl)
    have hx : n ≤ 4 := hx
    have hb : bulk n y ≤ 50000 := hb
    obtain ⟨k, s', b1, b2, b3, b4, b5, b6, b7⟩ := me_dfs hN hF m 0 (by omega) l' l'.length 0 (Nat.zero_add _) a (gin s0 0 a 0) 0 1 (by omega) rfl (by rw [hs0]; rfl) (by rw [hs0]; rfl) (by rw [hs0]; rfl) (by rw [hs0]; rfl) (by rw [hs0]; exact Lx.2) (by omega)
    rw [List.drop_zero] at b1 b4 b5
    refine ⟨s', ?_, ?_, ?_, mfr.tr (s1 := gin s0 0 a 0) ⟨fun q r => ?_, fun _ _ => by rw [hs0]; rfl, fun q r => ?_, fun _ _ => by rw [hs0]; rfl⟩ b7⟩
    · have hf := b2 (N - k)
      rw [show N - k + k = N by omega, show N - k = (N - k - 1) + 1 by omega, me_0 b3] at hf
      unfold mf_298 mf_298_0
      rw [if_pos gd, ev_S.1 (by omega), k1, if_neg (fun z => z hk)]
      unfold mf_298_16 mf_298_25
      rw [if_pos gd, ev_S.1 (by omega)]
      show (if ¬ (s.2.2.1 47) a = 3 then _ else mf_298_43 N (Int32.ofNat a) (mI (mI (mI s 56 (Int32.ofNat 0)) 57 (Int32.ofNat 1)) 55 (Int32.ofNat 0))) = _
      rw [k1, if_neg (fun z => z hk), ← hs0]
      unfold mf_298_43
      show mo_bv (mf_296 N (Int32.ofNat a) (Int32.ofNat 0) s0) _ = _
      rw [gi]
      exact hf
    · rw [b5]
      show _ = Int32.ofNat (bulk n y)
      rw [e3]
    · rw [b4]
      show _ = Int32.ofNat (dT n y)
      rw [e4]
      congr 1
    · rw [hs0]
      show (if q = 55 then _ else if q = 55 then _ else if q = 57 then _ else if q = 56 then _ else s.1 q) = _
      rw [if_neg (by omega), if_neg (by omega), if_neg (by omega), if_neg (by omega)]
    · rw [hs0]
      show (if q = 54 then _ else if q = 53 then _ else if q = 52 then _ else s.2.2.1 q) = _
      rw [if_neg (by omega), if_neg (by omega), if_neg (by omega)]
  · have hpb : pbV (vw ⟨n, y⟩) = bulk n y := by
      rw [hbv]
      cases hv : vw ⟨n, y⟩ with
      | inl z =>
        rw [hv] at Lx
        exact Lx.2.elim
      | inr v =>
        rcases v with r | q | l'
        · rfl
        · rfl
        · rw [hv] at hk
          exact absurd rfl hk
    have pb := r_plainBulk (s := mI s 56 (Int32.ofNat 0)) hN H hF hk
    have hd0 : dT n y = 0 := dN_0 (x := ⟨n, y⟩) hk
    obtain ⟨s0, hs0⟩ : ∃ s0, s0 = mI (mI (mI s 56 (Int32.ofNat 0)) 57 (Int32.ofNat (bulk n y))) 55 (Int32.ofNat 0) := ⟨_, rfl⟩
    refine ⟨s0, ?_, by rw [hs0]; rfl, by rw [hs0]; show _ = Int32.ofNat (dT n y); rw [hd0]; rfl, ⟨fun q r => ?_, fun _ _ => by rw [hs0]; rfl, fun _ _ => by rw [hs0]; rfl, fun _ _ => by rw [hs0]; rfl⟩⟩
    · unfold mf_298 mf_298_0
      rw [if_pos gd, ev_S.1 (by omega), k1, if_pos hk]
      unfold mf_298_20
      show mo_bi (mf_297 N (Int32.ofNat a) (mI s 56 (Int32.ofNat 0))) _ = _
      rw [pb, hpb]
      show mf_298_25 N (Int32.ofNat a) (Int32.ofNat (bulk n y)) (mI s 56 (Int32.ofNat 0)) = _
      unfold mf_298_25
      rw [if_pos gd, ev_S.1 (by omega)]
      show (if ¬ (s.2.2.1 47) a = 3 then mf_298_L1 N N 0 (mI (mI (mI s 56 (Int32.ofNat 0)) 57 (Int32.ofNat (bulk n y))) 55 (Int32.ofNat 0)) else _) = _
      rw [k1, if_pos hk, ← hs0]
      have z := me_0 (N := N) (f := N1) (s := s0) (by rw [hs0]; rfl)
      rw [← hN1] at z
      exact z
    · rw [hs0]
      show (if q = 55 then _ else if q = 57 then _ else if q = 56 then _ else s.1 q) = _
      rw [if_neg (by omega), if_neg (by omega), if_neg (by omega)]
end MEZ
end
-- ### 95j.pure.lean.txt
section
/-! ===== PURE: run (11): what lies on the stack, as a list of values ===== -/
def vfI (q : Nat) : Prop := q = 48 ∨ q = 51 ∨ q = 55 ∨ q = 56 ∨ q = 57 ∨ q = 62 ∨ q = 66 ∨ q = 67
def vfA (q : Nat) : Prop := q = 47 ∨ q = 49 ∨ q = 50 ∨ q = 52 ∨ q = 53 ∨ q = 54
/-- what work on values leaves alone -/
def vfr (n f : Nat) (s s' : mS) : Prop := mfr vfI (fun q => q = 89) vfA (fun _ => False) s s' ∧ (∀ y, y < n → s'.2.2.1 49 y = s.2.2.1 49 y ∧ s'.2.2.1 50 y = s.2.2.1 50 y) ∧ ∀ y, y < f → s'.2.2.1 47 y = s.2.2.1 47 y
/-- from s on, xs was laid on the stack from n on; free is now f' -/
def rG (s s' : mS) (n f f' : Nat) (xs : List Nod) : Prop := (s'.1 51 = Int32.ofNat (n + xs.length) ∧ s'.1 48 = Int32.ofNat f' ∧ f ≤ f') ∧ (∀ i (hi : i < xs.length), rvl (s'.2.2.1 47) f' (s'.2.2.1 49 (n + i)) (s'.2.2.1 50 (n + i)) xs[i]) ∧ vfr n f s s' ∧ s'.1 62 = s.1 62 ∧ s'.1 66 = s.1 66 ∧ s'.1 67 = s.1 67
section RGS
variable {N : Nat} {s s' s'' : mS} {f f' f'' a i n : Nat} {k v : Int32} {x : Nod} {xs : List Nod} {zs : List Int32}
theorem vfr.rf : vfr n f s s := ⟨mfr.rf, fun _ _ => ⟨rfl, rfl⟩, fun _ _ => rfl⟩
theorem vfr.tr (h : vfr n f s s') (g : vfr n f' s' s'') (hf : f ≤ f') : vfr n f s s'' := ⟨mfr.tr h.1 g.1, fun y hy => ⟨(g.2.1 y hy).1.trans (h.2.1 y hy).1, (g.2.1 y hy).2.trans (h.2.1 y hy).2⟩, fun y hy => (g.2.2 y (Nat.lt_of_lt_of_le hy hf)).trans (h.2.2 y hy)⟩
theorem rG.nil (h48 : s.1 48 = Int32.ofNat f) : rG s (mI s 51 (Int32.ofNat n)) n f f [] := by
  refine ⟨⟨rfl, h48, Nat.le_refl _⟩, fun i hi => absurd hi (Nat.not_lt_zero _), ⟨⟨fun q r => ?_, fun _ _ => rfl, fun _ _ => rfl, fun _ _ => rfl⟩, fun _ _ => ⟨rfl, rfl⟩, fun _ _ => rfl⟩, rfl, rfl, rfl⟩
  refine if_neg ?_
  unfold vfI at r
  omega
theorem rG.push (H : rG s s' n f f' xs) (hn : n + xs.length < 9000) (hx : rvl (s'.2.2.1 47) f' k v x) : mf_291 N k v s' = some (pus s' (n + xs.length) k v, none) ∧ rG s (pus s' (n + xs.length) k v) n f f' (xs ++ [x]) := by
  obtain ⟨⟨h1, h2, h3⟩, hv, ⟨g1, g2, g3⟩, h62, h66, h67⟩ := H
  refine ⟨r_psh h1 hn, ⟨?_, h2, h3⟩, fun i hi => ?_, ⟨⟨fun q r => ?_, g1.2.1, fun q r => ?_, g1.2.2.2⟩, fun y hy => ⟨?_, ?_⟩, g3⟩, h62, h66, h67⟩
  · rw [List.length_append]
    rfl
  · show rvl (s'.2.2.1 47) f' (if n + i = n + xs.length then k else s'.2.2.1 49 (n + i)) (if n + i = n + xs.length then v else s'.2.2.1 50 (n + i)) _
    rw [List.length_append] at hi
    have hi : i < xs.length + 1 := hi
    by_cases z : i < xs.length
    · rw [if_neg (by omega), if_neg (by omega), List.getElem_append_left z]
      exact hv i z
    · have z : i = xs.length := by omega
      subst z
      rw [if_pos rfl, if_pos rfl, List.getElem_append_right (Nat.le_refl _)]
      simp only [Nat.sub_self, List.getElem_cons_zero]
      exact hx
  · show (if q = 51 then _ else s'.1 q) = _
    rw [if_neg (fun z => r (by unfold vfI; omega))]
    exact g1.1 q r
  · show (if q = 50 then _ else if q = 49 then _ else s'.2.2.1 q) = _
    rw [if_neg (fun z => r (by unfold vfA; omega)), if_neg (fun z => r (by unfold vfA; omega))]
    exact g1.2.2.1 q r
  · show (if y = n + xs.length then _ else s'.2.2.1 49 y) = _
    rw [if_neg (by omega)]
    exact (g2 y hy).1
  · show (if y = n + xs.length then _ else s'.2.2.1 50 y) = _
    rw [if_neg (by omega)]
    exact (g2 y hy).2
theorem rvl_Z {h : Nat → Int32} {z : Int32} : rvl h f (Int32.ofNat 0) z (nZ z) := Or.inl ⟨rfl, rfl⟩
theorem rG.pushZ (H : rG s s' n f f' xs) (hn : n + xs.length < 9000) (z : Int32) : ∃ s'', mf_291 N (Int32.ofNat 0) z s' = some (s'', none) ∧ rG s s'' n f f' (xs ++ [nZ z]) := ⟨_, (rG.push H hn rvl_Z).1, (rG.push (N := N) H hn rvl_Z).2⟩
theorem rG.elem (H : rG s s' n f f' xs) (hn : n + xs.length < 9000) (hf : f' ≤ 166300) (Hx : LayN (s.2.2.1 47) (Rf f) a x) (hi : i < (pts x).length) : ∃ s'', mf_295 N (Int32.ofNat a) (Int32.ofNat i) s' = some (s'', none) ∧ rG s s'' n f f' (xs ++ [(pts x)[i]]) := by
  have Hx' : LayN (s'.2.2.1 47) (Rf f') a x := LayN.congr (fun y z => ⟨Nat.lt_of_lt_of_le z.1 H.1.2.2, z.2⟩) (fun y z => H.2.2.1.2.2 y z.1) Hx
  obtain ⟨k, v, e1, e2⟩ := r_elem (N := N) Hx' hf hi H.1.1 hn
  exact ⟨_, e1, (rG.push (N := N) H hn e2).2⟩
theorem rvl.z {h : Nat → Int32} {z : Int32} (H : rvl h f k v (nZ z)) : k = Int32.ofNat 0 ∧ v = z := by
  rcases H with ⟨h1, h2⟩ | ⟨h1, h2, h3⟩
  · have h2 : some z = some v := h2
    cases h2
    exact ⟨h1, rfl⟩
  · have h2 : some z = none := h2
    cases h2
theorem rG.row (hN : 170000 ≤ N) (H : rG s s' n f f' (xs ++ zs.map nZ)) (hn : n + xs.length + zs.length < 9000) (hf : 154240 ≤ f' ∧ f' + 2 + zs.length ≤ 166300) : ∃ s'', mf_306 N (Int32.ofNat (n + xs.length)) s' = some (s'', none) ∧ rG s s'' n f (f' + 2 + zs.length) (xs ++ [nR zs]) := by
  obtain ⟨⟨h1, h2, h3⟩, hv, ⟨g1, g2, g3⟩, h62, h66, h67⟩ := H
  have hl : (xs ++ zs.map nZ).length = xs.length + zs.length := by rw [List.length_append, List.length_map]
  have h1' : s'.1 51 = Int32.ofNat (n + xs.length + zs.length) := by rw [h1, hl, Nat.add_assoc]
  obtain ⟨s'', e1, e2, e3, e4, e5, e6, e7, e8⟩ := r_rowOf (N := N) (zs := zs) (n := n + xs.length) hN h2 h1' (fun j hj => by
    have q := hv (xs.length + j) (by omega)
    rw [List.getElem_append_right (by omega)] at q
    simp only [Nat.add_sub_cancel_left, List.getElem_map] at q
    rw [Nat.add_assoc]
    exact (rvl.z q).2) hn hf
  refine ⟨s'', e1, ⟨?_, e4, by omega⟩, fun i hi => ?_, ⟨⟨fun q r => ?_, fun q r => ?_, fun q r => ?_, fun q r => ?_⟩, fun y hy => ⟨?_, ?_⟩, fun y hy => ?_⟩, ?_, ?_, ?_⟩
  · rw [e5, List.length_append]
    rfl
  · rw [List.length_append] at hi
    have hi : i < xs.length + 1 := hi
    by_cases z : i < xs.length
    · rw [List.getElem_append_left z, (e7 (n + i) (by omega)).1, (e7 (n + i) (by omega)).2]
      have q := hv i (by omega)
      rw [List.getElem_append_left z] at q
      exact rvl.up q (by omega) e3
    · have z : i = xs.length := by omega
      subst z
      rw [List.getElem_append_right (Nat.le_refl _)]
      simp only [Nat.sub_self, List.getElem_cons_zero]
      exact Or.inr ⟨e6.1, rfl, f', e6.2, e2⟩
  · exact (e8.1 q (fun z => r (by unfold vfI; omega))).trans (g1.1 q r)
  · exact (e8.2.1 q (fun z => z)).trans (g1.2.1 q r)
  · exact (e8.2.2.1 q (fun z => r (by unfold vfA; omega))).trans (g1.2.2.1 q r)
  · exact (e8.2.2.2 q (fun z => z)).trans (g1.2.2.2 q r)
  · exact ((e7 y (by omega)).1).trans (g2 y hy).1
  · exact ((e7 y (by omega)).2).trans (g2 y hy).2
  · exact (e3 y (by omega)).trans (g3 y hy)
  · exact (e8.1 62 (by omega)).trans h62
  · exact (e8.1 66 (by omega)).trans h66
  · exact (e8.1 67 (by omega)).trans h67
end RGS
end
-- ### 95k.pure.lean.txt
section
/-! ===== PURE: run (12): builds, its three rounds ===== -/
section RBL
variable {N : Nat} {s : mS} {f n F : Nat} {xs : List Nod} {x3 x5 : Int32}
/-- xs lies on the stack from n on -/
def rX (s : mS) (n f : Nat) (xs : List Nod) : Prop := s.1 51 = Int32.ofNat (n + xs.length) ∧ ∀ i (hi : i < xs.length), rvl (s.2.2.1 47) f (s.2.2.1 49 (n + i)) (s.2.2.1 50 (n + i)) xs[i]
theorem r_b19 (H : rX s n f xs) (hk : ∀ x ∈ xs, kdN x = 1) (hf : f ≤ 166300) (hn : n + xs.length < 9000) : ∀ (d i q all : Nat), i + d = xs.length → mf_305_L19 N (q + (d + 1)) 0 (Int32.ofNat 2) (Int32.ofNat n) x3 (Int32.ofNat all) x5 (Int32.ofNat (n + i)) s = mf_305_72 N (Int32.ofNat 2) (Int32.ofNat n) x3 (Int32.ofNat (all + ((xs.drop i).map szN).sum)) x5 s := by
  intro d
  induction d with
  | zero =>
    intro i q all hi
    have hi : i = xs.length := hi
    subst hi
    have h51 := H.1
    rw [List.drop_length]
    show mf_305_36 N (mf_305_L19 N q) (Int32.ofNat 2) (Int32.ofNat n) x3 (Int32.ofNat all) x5 (Int32.ofNat (n + xs.length)) s = mf_305_72 N (Int32.ofNat 2) (Int32.ofNat n) x3 (Int32.ofNat all) x5 s
    unfold mf_305_36
    simp (disch := omega) only [ev_S, ev_P, ↓reduceIte, Nat.reduceEqDiff, Nat.reduceLeDiff, Nat.reduceAdd, Nat.reduceMul, Nat.reduceSub, reduceCtorEq, l32_0, l32_1, l32_2, l32_3, l32_4, l32_5, l32_6, l32_7, l32_8, l32_9, l32_10, l32_11, l32_12, l32_13, l32_14, l32_15, l32_16, l32_17, l32_18, l32_19, l32_20, l32_21, l32_22, l32_23, l32_24, l32_25, l32_26, l32_27, l32_28, l32_29, l32_33, l32_40, l32_41, l32_44, l32_45, l32_59, l32_61, l32_91, l32_93, l32_123, l32_125, h51]
  | succ d ih =>
    intro i q all hi
    have hi1 : i < xs.length := by omega
    have h51 := H.1
    rw [List.drop_eq_getElem_cons hi1, List.map_cons, List.sum_cons, ← Nat.add_assoc all, ← ih (i + 1) q (all + szN xs[i]) (by omega)]
    have hx := H.2 i hi1
    have hkx := hk _ (List.getElem_mem hi1)
    have n1 : ¬ n + xs.length ≤ n + i := by omega
    rcases hx with ⟨-, h2⟩ | ⟨h1, h2, a, h3, h4⟩
    · exfalso
      have e : kdV (vw xs[i]) = 1 := hkx
      revert h2 e
      cases vw xs[i] with
      | inl z => intro _ e; cases e
      | inr w => intro h2; cases h2
    · have hz := r_size (N := N) (s := s) (LayN_iff.mp h4).2 (Nat.le_trans (LayN.lt h4).1 hf)
      show mf_305_36 N (mf_305_L19 N (q + (d + 1))) (Int32.ofNat 2) (Int32.ofNat n) x3 (Int32.ofNat all) x5 (Int32.ofNat (n + i)) s = _
      unfold mf_305_36 mf_305_45 mf_305_50 mf_305_63
      simp (disch := omega) only [ev_S, ev_P, ↓reduceIte, Nat.reduceEqDiff, Nat.reduceLeDiff, Nat.reduceAdd, Nat.reduceMul, Nat.reduceSub, reduceCtorEq, l32_0, l32_1, l32_2, l32_3, l32_4, l32_5, l32_6, l32_7, l32_8, l32_9, l32_10, l32_11, l32_12, l32_13, l32_14, l32_15, l32_16, l32_17, l32_18, l32_19, l32_20, l32_21, l32_22, l32_23, l32_24, l32_25, l32_26, l32_27, l32_28, l32_29, l32_33, l32_40, l32_41, l32_44, l32_45, l32_59, l32_61, l32_91, l32_93, l32_123, l32_125, h51, n1, h3, hz]
      rfl
theorem rX.int {i : Nat} (H : rX s n f xs) (hi : i < xs.length) (h : kdN xs[i] = 0) : s.2.2.1 49 (n + i) = Int32.ofNat 0 ∧ s.2.2.1 50 (n + i) = ivN xs[i] := by
  have e := kd0 h
  rcases H.2 i hi with ⟨h1, h2⟩ | ⟨-, h2, -⟩
  · rw [e] at h2
    have h2 : some (ivN xs[i]) = some _ := h2
    exact ⟨h1, (Option.some.inj h2).symm⟩
  · rw [e] at h2
    cases h2
theorem r_b13 (hN : 170000 ≤ N) (hf : f ≤ 166300) (hn : n + xs.length < 9000) (hw : ∀ x ∈ xs, wfN x) (hd : ∀ x ∈ xs, x.1 ≤ 4) (hl : xs.length ≤ 3000) : ∀ (d i q : Nat) (s : mS) (most b : Nat), i + d = xs.length → rX s n f xs → most ≤ 10 → b ≤ 1 + 600 * i → ∃ s2, mf_305_L13 N (q + (d + 1)) 0 (Int32.ofNat 3) (Int32.ofNat n) x3 (Int32.ofNat 0) (Int32.ofNat most) (Int32.ofNat b) (Int32.ofNat (n + i)) s = mf_305_187 N (Int32.ofNat 3) (Int32.ofNat n) x3 (Int32.ofNat 0) (Int32.ofNat (Nat.max most (mxL ((xs.drop i).map dN)))) (Int32.ofNat (b + ((xs.drop i).map bulkN).sum)) s2 ∧ fMe s s2 := by
  intro d
  induction d with
  | zero =>
    intro i q s most b hi H hm hb
    have hi : i = xs.length := hi
    subst hi
    have h51 := H.1
    refine ⟨s, ?_, mfr.rf⟩
    rw [List.drop_length]
    rw [show Nat.max most (mxL (([] : List Nod).map dN)) = most from Nat.max_eq_left (Nat.zero_le _)]
    show mf_305_101 N (mf_305_L13 N q) (Int32.ofNat 3) (Int32.ofNat n) x3 (Int32.ofNat 0) (Int32.ofNat most) (Int32.ofNat b) (Int32.ofNat (n + xs.length)) s = mf_305_187 N (Int32.ofNat 3) (Int32.ofNat n) x3 (Int32.ofNat 0) (Int32.ofNat most) (Int32.ofNat b) s
    unfold mf_305_101
    simp (disch := omega) only [ev_S, ev_P, ↓reduceIte, Nat.reduceEqDiff, Nat.reduceLeDiff, Nat.reduceAdd, Nat.reduceMul, Nat.reduceSub, reduceCtorEq, l32_0, l32_1, l32_2, l32_3, l32_4, l32_5, l32_6, l32_7, l32_8, l32_9, l32_10, l32_11, l32_12, l32_13, l32_14, l32_15, l32_16, l32_17, l32_18, l32_19, l32_20, l32_21, l32_22, l32_23, l32_24, l32_25, l32_26, l32_27, l32_28, l32_29, l32_33, l32_40, l32_41, l32_44, l32_45, l32_59, l32_61, l32_91, l32_93, l32_123, l32_125, h51]
  | succ d ih =>
    intro i q s most b hi H hm hb
    have hi1 : i < xs.length := by omega
    have h51 := H.1
    have n1 : ¬ n + xs.length ≤ n + i := by omega
    have hwx : bulkN xs[i] ≤ 600 := by
      have := wt_le (k := 3) (hw _ (List.getElem_mem hi1))
      exact this
    have hdx := hd _ (List.getElem_mem hi1)
    have hdd : dN xs[i] ≤ 4 := Nat.le_trans (dT_le _ _) hdx
    obtain ⟨s0, hs0⟩ : ∃ s0, s0 = mI (mI s 56 (Int32.ofNat 0)) 57 (Int32.ofNat 1) := ⟨_, rfl⟩
    have f0 : fMe s s0 := by
      rw [hs0]
      refine ⟨fun q r => ?_, fun _ _ => rfl, fun _ _ => rfl, fun _ _ => rfl⟩
      show (if q = 57 then _ else if q = 56 then _ else s.1 q) = _
      rw [if_neg (by omega), if_neg (by omega)]
    have key : ∃ s1, mf_305_101 N (mf_305_L13 N (q + (d + 1))) (Int32.ofNat 3) (Int32.ofNat n) x3 (Int32.ofNat 0) (Int32.ofNat most) (Int32.ofNat b) (Int32.ofNat (n + i)) s = mf_305_152 N (mf_305_L13 N (q + (d + 1))) (Int32.ofNat 3) (Int32.ofNat n) x3 (Int32.ofNat 0) (Int32.ofNat most) (Int32.ofNat b) (Int32.ofNat (n + i)) s1 ∧ s1.1 56 = Int32.ofNat (dN xs[i]) ∧ s1.1 57 = Int32.ofNat (bulkN xs[i]) ∧ fMe s s1 := by
      rcases H.2 i hi1 with ⟨h1, h2⟩ | ⟨h1, h2, a, h3, h4⟩
      · refine ⟨s0, ?_, ?_, ?_, f0⟩
        · unfold mf_305_101 mf_305_110 mf_305_115 mf_305_120
          simp (disch := omega) only [ev_S, ev_P, ↓reduceIte, Nat.reduceEqDiff, Nat.reduceLeDiff, Nat.reduceAdd, Nat.reduceMul, Nat.reduceSub, reduceCtorEq, l32_0, l32_1, l32_2, l32_3, l32_4, l32_5, l32_6, l32_7, l32_8, l32_9, l32_10, l32_11, l32_12, l32_13, l32_14, l32_15, l32_16, l32_17, l32_18, l32_19, l32_20, l32_21, l32_22, l32_23, l32_24, l32_25, l32_26, l32_27, l32_28, l32_29, l32_33, l32_40, l32_41, l32_44, l32_45, l32_59, l32_61, l32_91, l32_93, l32_123, l32_125, h51, n1, h1]
          rw [hs0]
        · rw [hs0, show dN xs[i] = 0 from dN_0 (by revert h2; cases vw xs[i] with
            | inl z => intro _ e; cases e
            | inr w => intro h2; cases h2)]
          rfl
        · rw [hs0, vw_bulk]
          revert h2
          cases vw xs[i] with
          | inl z => intro _; rfl
          | inr w => intro h2; cases h2
      · have h4' : LayN (s0.2.2.1 47) (Rf f) a xs[i] := by rw [hs0]; exact h4
        obtain ⟨s1, m1, m2, m3, m4⟩ := r_measure (N := N) hN hf h4' hdx (by omega)
        refine ⟨s1, ?_, m3, m2, mfr.tr f0 m4⟩
        unfold mf_305_101 mf_305_110 mf_305_115 mf_305_120 mf_305_141
        rw [hs0] at m1
        simp (disch := omega) only [ev_S, ev_P, ↓reduceIte, Nat.reduceEqDiff, Nat.reduceLeDiff, Nat.reduceAdd, Nat.reduceMul, Nat.reduceSub, reduceCtorEq, l32_0, l32_1, l32_2, l32_3, l32_4, l32_5, l32_6, l32_7, l32_8, l32_9, l32_10, l32_11, l32_12, l32_13, l32_14, l32_15, l32_16, l32_17, l32_18, l32_19, l32_20, l32_21, l32_22, l32_23, l32_24, l32_25, l32_26, l32_27, l32_28, l32_29, l32_33, l32_40, l32_41, l32_44, l32_45, l32_59, l32_61, l32_91, l32_93, l32_123, l32_125, h51, n1, h1, h3, m1]
    obtain ⟨s1, k1, k2, k3, k4⟩ := key
    have H1 : rX s1 n f xs := by
      refine ⟨(k4.1 51 (by omega)).trans h51, fun j hj => ?_⟩
      rw [k4.2.2.1 47 (by omega), k4.2.2.1 49 (by omega), k4.2.2.1 50 (by omega)]
      exact H.2 j hj
    obtain ⟨s2, j1, j2⟩ := ih (i + 1) q s1 (Nat.max most (dN xs[i])) (b + bulkN xs[i]) (by omega) H1 (Nat.max_le.mpr ⟨hm, by omega⟩) (by omega)
    refine ⟨s2, ?_, mfr.tr k4 j2⟩
    rw [List.drop_eq_getElem_cons hi1, List.map_cons, List.map_cons, List.sum_cons, ← Nat.add_assoc b]
    rw [show Nat.max most (mxL (dN xs[i] :: (xs.drop (i + 1)).map dN)) = Nat.max (Nat.max most (dN xs[i])) (mxL ((xs.drop (i + 1)).map dN)) from (Nat.max_assoc _ _ _).symm, ← j1]
    show mf_305_101 N (mf_305_L13 N (q + (d + 1))) (Int32.ofNat 3) (Int32.ofNat n) x3 (Int32.ofNat 0) (Int32.ofNat most) (Int32.ofNat b) (Int32.ofNat (n + i)) s = _
    rw [k1]
    generalize hdv : dN xs[i] = dv at *
    generalize hbv : bulkN xs[i] = bv at *
    unfold mf_305_152
    by_cases z : dv ≤ most
    · unfold mf_305_168 mf_305_170
      rw [show Nat.max most dv = most from Nat.max_eq_left z]
      simp (disch := omega) only [ev_S, ev_P, ↓reduceIte, Nat.reduceEqDiff, Nat.reduceLeDiff, Nat.reduceAdd, Nat.reduceMul, Nat.reduceSub, reduceCtorEq, l32_0, l32_1, l32_2, l32_3, l32_4, l32_5, l32_6, l32_7, l32_8, l32_9, l32_10, l32_11, l32_12, l32_13, l32_14, l32_15, l32_16, l32_17, l32_18, l32_19, l32_20, l32_21, l32_22, l32_23, l32_24, l32_25, l32_26, l32_27, l32_28, l32_29, l32_33, l32_40, l32_41, l32_44, l32_45, l32_59, l32_61, l32_91, l32_93, l32_123, l32_125, k2, k3, z]
      rfl
    · unfold mf_305_161 mf_305_170
      rw [show Nat.max most dv = dv from Nat.max_eq_right (by omega)]
      simp (disch := omega) only [ev_S, ev_P, ↓reduceIte, Nat.reduceEqDiff, Nat.reduceLeDiff, Nat.reduceAdd, Nat.reduceMul, Nat.reduceSub, reduceCtorEq, l32_0, l32_1, l32_2, l32_3, l32_4, l32_5, l32_6, l32_7, l32_8, l32_9, l32_10, l32_11, l32_12, l32_13, l32_14, l32_15, l32_16, l32_17, l32_18, l32_19, l32_20, l32_21, l32_22, l32_23, l32_24, l32_25, l32_26, l32_27, l32_28, l32_29, l32_33, l32_40, l32_41, l32_44, l32_45, l32_59, l32_61, l32_91, l32_93, l32_123, l32_125, k2, k3, z]
      rfl
end RBL
end
-- ### 95l.pure.lean.txt
section
/-! ===== PURE: run (13): builds: how great it is ===== -/
section RBG
variable {N q k : Nat} {s : mS} {f n F : Nat} {xs : List Nod} {x2 x3 x4 x5 x6 x7 x8 : Int32}
theorem r_b19n (hk : k = 1 ∨ k = 3) : mf_305_L19 N (q + 1) 0 (Int32.ofNat k) x2 x3 x4 x5 x6 s = mf_305_72 N (Int32.ofNat k) x2 x3 x4 x5 s := by
  show mf_305_36 N (mf_305_L19 N q) (Int32.ofNat k) x2 x3 x4 x5 x6 s = _
  unfold mf_305_36
  by_cases h : s.1 51 ≤ x6
  · rw [if_pos h]
  · rw [if_neg h]
    unfold mf_305_45
    rcases hk with rfl | rfl
    · exact if_pos (by decide)
    · exact if_pos (by decide)
theorem r_b13n (hk : k = 1 ∨ k = 2 ∨ ¬ x5 = 0) : mf_305_L13 N (q + 1) 0 (Int32.ofNat k) x2 x3 x5 x6 x7 x8 s = mf_305_187 N (Int32.ofNat k) x2 x3 x5 x6 x7 s := by
  show mf_305_101 N (mf_305_L13 N q) (Int32.ofNat k) x2 x3 x5 x6 x7 x8 s = _
  unfold mf_305_101
  by_cases h : s.1 51 ≤ x8
  · rw [if_pos h]
  · rw [if_neg h]
    unfold mf_305_110 mf_305_115
    rcases hk with rfl | rfl | hk
    · exact if_pos (by decide)
    · exact if_pos (by decide)
    · by_cases h3 : ¬ Int32.ofNat k = 3
      · rw [if_pos h3]
      · rw [if_neg h3, if_pos hk]
/-- too great, or not: 228 goes on, 218 is the trouble -/
theorem r_great (hN : 170000 ≤ N) (H : rX s n f xs) (hok : mkOk k xs) (hf : f ≤ 166300) (hn : n + xs.length < 9000) (hw : ∀ x ∈ xs, wfN x) (hd : ∀ x ∈ xs, x.1 ≤ 4) (hl : xs.length ≤ 3000) : ∃ s2, fMe s s2 ∧ mf_305 N (Int32.ofNat k) (Int32.ofNat n) s = if mk k xs = none then mf_305_218 N s2 else mf_305_228 N (Int32.ofNat k) (Int32.ofNat n) (Int32.ofNat xs.length) s2 := by
  obtain ⟨N1, hN1⟩ : ∃ N1, N = N1 + 1 := ⟨N - 1, by omega⟩
  have h51 := H.1
  have hsub : Int32.ofNat (n + xs.length) - Int32.ofNat n = Int32.ofNat xs.length := by
    rw [Nat.add_comm, Int32.ofNat_add]
    exact Int32.add_sub_cancel _ _
  have t1 : ∀ {k : Nat} {s2 : mS} {x6 x7 : Int32}, mf_305_187 N (Int32.ofNat k) (Int32.ofNat n) (Int32.ofNat xs.length) (Int32.ofNat 1) x6 x7 s2 = mf_305_218 N s2 := fun {k s2 x6 x7} => by
    unfold mf_305_187 mf_305_206 mf_305_211
    simp (disch := omega) only [ev_S, ev_P, ↓reduceIte, Nat.reduceEqDiff, Nat.reduceLeDiff, Nat.reduceAdd, Nat.reduceMul, Nat.reduceSub, reduceCtorEq, l32_0, l32_1, l32_2, l32_3, l32_4, l32_5, l32_6, l32_7, l32_8, l32_9, l32_10, l32_11, l32_12, l32_13, l32_14, l32_15, l32_16, l32_17, l32_18, l32_19, l32_20, l32_21, l32_22, l32_23, l32_24, l32_25, l32_26, l32_27, l32_28, l32_29, l32_33, l32_40, l32_41, l32_44, l32_45, l32_59, l32_61, l32_91, l32_93, l32_123, l32_125]
  have t0 : ∀ {k : Nat} {s2 : mS} {D B : Nat}, D < 2000000 → B < 2000000 → mf_305_187 N (Int32.ofNat k) (Int32.ofNat n) (Int32.ofNat xs.length) (Int32.ofNat 0) (Int32.ofNat D) (Int32.ofNat B) s2 = if D ≤ 3 ∧ B ≤ 600 then mf_305_228 N (Int32.ofNat k) (Int32.ofNat n) (Int32.ofNat xs.length) s2 else mf_305_218 N s2 := fun {k s2 D B} hD hB => by
    have e1 : (3 : Int32) = Int32.ofNat 3 := rfl
    have e2 : (600 : Int32) = Int32.ofNat 600 := rfl
    unfold mf_305_187 mf_305_192
    rw [if_neg (fun z => z rfl), e1]
    by_cases z : 3 < D
    · rw [if_pos ((i32lt (by omega) (by omega)).mpr z), if_neg (by omega)]
      unfold mf_305_206 mf_305_211
      exact if_neg (by decide)
    · rw [if_neg (fun y => z ((i32lt (by omega) (by omega)).mp y))]
      unfold mf_305_198
      rw [e2]
      by_cases y : B ≤ 600
      · rw [if_pos ((i32le (by omega) (by omega)).mpr y), if_pos ⟨by omega, y⟩]
        unfold mf_305_210 mf_305_211
        exact if_pos rfl
      · rw [if_neg (fun u => y ((i32le (by omega) (by omega)).mp u)), if_neg (fun u => y u.2)]
        unfold mf_305_206 mf_305_211
        exact if_neg (by decide)
  have bx : ∀ (c : Nat), c ≤ 64 → (Int32.ofNat xs.length ≤ Int32.ofNat c ↔ xs.length ≤ c) := fun c hc => i32le (by omega) (by omega)
  rcases hok with ⟨rfl, -⟩ | ⟨rfl, hk1⟩ | rfl
  · refine ⟨s, mfr.rf, ?_⟩
    unfold mf_305 mf_305_0
    rw [h51, hsub, if_neg (fun z => z rfl)]
    unfold mf_305_16 mf_305_23
    have em : mk 1 xs = if xs.length ≤ 64 then some (mkR xs) else none := rfl
    rw [em]
    by_cases z : xs.length ≤ 64
    · rw [if_pos (show Int32.ofNat xs.length ≤ 64 from (bx 64 (by omega)).mpr z), if_pos z, if_neg (by intro h; cases h)]
      unfold mf_305_30 mf_305_31
      rw [hN1, r_b19n (Or.inl rfl), ← hN1]
      unfold mf_305_72 mf_305_77
      rw [if_neg (fun z => z rfl), if_pos (by decide)]
      unfold mf_305_89 mf_305_90
      rw [hN1, r_b13n (Or.inl rfl), ← hN1]
      exact (t0 (D := 0) (B := 1) (by omega) (by omega)).trans (if_pos ⟨by omega, by omega⟩)
    · rw [if_neg (show ¬ Int32.ofNat xs.length ≤ 64 from fun y => z ((bx 64 (by omega)).mp y)), if_neg z, if_pos rfl]
      unfold mf_305_26 mf_305_31
      rw [hN1, r_b19n (Or.inl rfl), ← hN1]
      unfold mf_305_72
      rw [if_pos (by decide)]
      unfold mf_305_85 mf_305_90
      rw [hN1, r_b13n (Or.inl rfl), ← hN1]
      exact t1
  · refine ⟨s, mfr.rf, ?_⟩
    have hs6 : (xs.map szN).sum ≤ 600 * xs.length := wt_sum (k := 2) hw
    unfold mf_305 mf_305_0
    rw [h51, hsub, if_pos (by decide)]
    unfold mf_305_21 mf_305_23
    have em : mk 2 xs = if xs.length ≤ 20 ∧ (xs.map szN).sum ≤ 200 then some (mkT xs) else none := rfl
    have l19 : ∀ x5, mf_305_L19 N N 0 (Int32.ofNat 2) (Int32.ofNat n) (Int32.ofNat xs.length) 0 x5 (Int32.ofNat n) s = mf_305_72 N (Int32.ofNat 2) (Int32.ofNat n) (Int32.ofNat xs.length) (Int32.ofNat (xs.map szN).sum) x5 s := fun x5 => by
      have z := r_b19 (N := N) (x3 := Int32.ofNat xs.length) (x5 := x5) H hk1 hf hn xs.length 0 (N - (xs.length + 1)) 0 (Nat.zero_add _)
      rw [show N - (xs.length + 1) + (xs.length + 1) = N by omega, List.drop_zero, Nat.zero_add] at z
      exact z
    rw [em]
    generalize (xs.map szN).sum = w at *
    by_cases z : xs.length ≤ 20
    · rw [if_pos (show Int32.ofNat xs.length ≤ 20 from (bx 20 (by omega)).mpr z)]
      unfold mf_305_30 mf_305_31
      rw [l19]
      unfold mf_305_72 mf_305_77
      rw [if_neg (fun z => z rfl)]
      by_cases y : w ≤ 200
      · rw [if_pos (show Int32.ofNat w ≤ 200 from (i32le (b := 200) (by omega) (by omega)).mpr y), if_pos (show xs.length ≤ 20 ∧ w ≤ 200 from ⟨z, y⟩), if_neg (by intro h; cases h)]
        unfold mf_305_89 mf_305_90
        rw [hN1, r_b13n (Or.inr (Or.inl rfl)), ← hN1]
        exact (t0 (D := 0) (B := 1) (by omega) (by omega)).trans (if_pos ⟨by omega, by omega⟩)
      · rw [if_neg (show ¬ Int32.ofNat w ≤ 200 from fun u => y ((i32le (b := 200) (by omega) (by omega)).mp u)), if_neg (show ¬ (xs.length ≤ 20 ∧ w ≤ 200) from fun u => y u.2), if_pos rfl]
        unfold mf_305_85 mf_305_90
        rw [hN1, r_b13n (Or.inr (Or.inl rfl)), ← hN1]
        exact t1
    · rw [if_neg (show ¬ Int32.ofNat xs.length ≤ 20 from fun y => z ((bx 20 (by omega)).mp y)), if_neg (show ¬ (xs.length ≤ 20 ∧ w ≤ 200) from fun u => z u.1), if_pos rfl]
      unfold mf_305_26 mf_305_31
      rw [l19]
      unfold mf_305_72
      rw [if_pos (by decide)]
      unfold mf_305_85 mf_305_90
      rw [hN1, r_b13n (Or.inr (Or.inl rfl)), ← hN1]
      exact t1
  · have hs6 : (xs.map bulkN).sum ≤ 600 * xs.length := wt_sum (k := 3) hw
    have hdm : mxL (xs.map dN) ≤ 4 := mxL_le.mpr (fun y hy => by
      obtain ⟨x, hx, rfl⟩ := List.mem_map.mp hy
      exact Nat.le_trans (dT_le _ _) (hd x hx))
    obtain ⟨s2, l1, l2⟩ := r_b13 (N := N) (x3 := Int32.ofNat xs.length) hN hf hn hw hd hl xs.length 0 (N - (xs.length + 1)) s 0 1 (Nat.zero_add _) H (by omega) (by omega)
    rw [show N - (xs.length + 1) + (xs.length + 1) = N by omega, List.drop_zero, show Nat.max 0 (mxL (xs.map dN)) = mxL (xs.map dN) from Nat.max_eq_right (Nat.zero_le _)] at l1
    have em : mk 3 xs = if xs.length ≤ 20 ∧ 1 + (xs.map bulkN).sum ≤ 600 ∧ 1 + mxL (xs.map dN) ≤ 4 then some (mkP xs) else none := rfl
    rw [em]
    generalize (xs.map bulkN).sum = w at *
    generalize mxL (xs.map dN) = D at *
    refine ⟨if xs.length ≤ 20 then s2 else s, by split; exact l2; exact mfr.rf, ?_⟩
    unfold mf_305 mf_305_0
    rw [h51, hsub, if_pos (by decide)]
    unfold mf_305_21 mf_305_23
    by_cases z : xs.length ≤ 20
    · rw [if_pos (show Int32.ofNat xs.length ≤ 20 from (bx 20 (by omega)).mpr z), if_pos z]
      unfold mf_305_30 mf_305_31
      rw [hN1, r_b19n (Or.inr rfl), ← hN1]
      unfold mf_305_72 mf_305_77
      rw [if_neg (fun z => z rfl), if_pos (by decide)]
      unfold mf_305_89 mf_305_90
      have l1 : mf_305_L13 N N 0 (Int32.ofNat 3) (Int32.ofNat n) (Int32.ofNat xs.length) 0 0 1 (Int32.ofNat n) s = _ := l1
      rw [l1, t0 (by omega) (by omega)]
      by_cases y : D ≤ 3 ∧ 1 + w ≤ 600
      · rw [if_pos y, if_pos (show xs.length ≤ 20 ∧ 1 + w ≤ 600 ∧ 1 + D ≤ 4 by omega), if_neg (by intro h; cases h)]
      · rw [if_neg y, if_neg (show ¬ (xs.length ≤ 20 ∧ 1 + w ≤ 600 ∧ 1 + D ≤ 4) by omega), if_pos rfl]
    · rw [if_neg (show ¬ Int32.ofNat xs.length ≤ 20 from fun y => z ((bx 20 (by omega)).mp y)), if_neg z, if_neg (show ¬ (xs.length ≤ 20 ∧ 1 + w ≤ 600 ∧ 1 + D ≤ 4) from fun u => z u.1), if_pos rfl]
      unfold mf_305_26 mf_305_31
      rw [hN1, r_b19n (Or.inr rfl), ← hN1]
      unfold mf_305_72
      rw [if_pos (by decide)]
      unfold mf_305_85 mf_305_90
      rw [hN1, r_b13n (Or.inr (Or.inr (by decide))), ← hN1]
      exact t1
end RBG
end
-- ### 95m.pure.lean.txt
section
/-! ===== PURE: run (14): builds ===== -/
/-- what an operation answers: a trouble's kind, or a value -/
abbrev Ans : Type := Nat ⊕ Nod
/-- the end of an operation in the reference: n its first place on the stack, f where free was, m what was made -/
def rE (s s' : mS) (n f m : Nat) (r : Ans) : Prop := ∃ f', f ≤ f' ∧ s'.1 48 = Int32.ofNat f' ∧ vfr n f s s' ∧ match r with
  | .inl k => f' ≤ f + 300 ∧ s'.1 62 = Int32.ofNat m ∧ s'.1 66 = Int32.ofNat k ∧ s'.1 67 = s.1 70
  | .inr x => f' ≤ f + ctV (vw x) ∧ s'.1 51 = Int32.ofNat (n + 1) ∧ rvl (s'.2.2.1 47) f' (s'.2.2.1 49 n) (s'.2.2.1 50 n) x ∧ s'.1 62 = Int32.ofNat (m + ctV (vw x)) ∧ (if m + ctV (vw x) ≤ 3000 then s'.1 66 = s.1 66 ∧ s'.1 67 = s.1 67 else s'.1 66 = Int32.ofNat 11 ∧ s'.1 67 = s.1 70)
def ansM (k : Nat) (xs : List Nod) : Ans := match mk k xs with
  | some y => .inr y
  | none => .inl 2
/-- by how much free may have grown before a THING of kind k is built -/
def grw (k : Nat) (xs : List Nod) : Nat := if k = 2 then (xs.map fun x => 2 + szN x).sum else 0
section RBW
variable {N k : Nat} {s s' : mS} {f f' n m : Nat} {xs : List Nod}
def cvl (s : mS) (n a j : Nat) : Int32 := if s.2.2.1 49 (n + j) = Int32.ofNat 1 then s.2.2.1 50 (n + j) - Int32.ofNat a else s.2.2.1 50 (n + j)
abbrev wk (k : Nat) : Nat := if k = 3 then 2 else 1
theorem r_bw (hk : k = 1 ∨ k = 2 ∨ k = 3) {z : Nat} (hn : n + z < 9000) (hf : f + 2 + wk k * z ≤ 166300) : ∀ (d i q : Nat) (s : mS), i + d = z → s.1 48 = Int32.ofNat (f + 2 + wk k * i) → s.1 51 = Int32.ofNat (n + z) → ∃ s2, mf_305_L2 N (q + (d + 1)) 0 (Int32.ofNat k) (Int32.ofNat n) (Int32.ofNat f) (Int32.ofNat (n + i)) s = mf_305_335 N (Int32.ofNat n) (Int32.ofNat f) s2 ∧ s2.1 48 = Int32.ofNat (f + 2 + wk k * z) ∧ (∀ j, i ≤ j → j < z → s2.2.2.1 47 (f + 1 + wk k * (j + 1)) = cvl s n f j ∧ (k = 3 → s2.2.2.1 47 (f + 2 + 2 * j) = s.2.2.1 49 (n + j))) ∧ (∀ y, y < f + 2 + wk k * i → s2.2.2.1 47 y = s.2.2.1 47 y) ∧ mfr (fun q => q = 48) (fun _ => False) (fun q => q = 47) (fun _ => False) s s2 := by
  intro d
  induction d with
  | zero =>
    intro i q s hi h48 h51
    have hi : i = z := hi
    subst hi
    refine ⟨s, ?_, h48, fun j hj z => by omega, fun _ _ => rfl, mfr.rf⟩
    show mf_305_239 N (mf_305_L2 N q) (Int32.ofNat k) (Int32.ofNat n) (Int32.ofNat f) (Int32.ofNat (n + i)) s = _
    unfold mf_305_239
    simp (disch := omega) only [ev_S, ev_P, ↓reduceIte, Nat.reduceEqDiff, Nat.reduceLeDiff, Nat.reduceAdd, Nat.reduceMul, Nat.reduceSub, reduceCtorEq, l32_0, l32_1, l32_2, l32_3, l32_4, l32_5, l32_6, l32_7, l32_8, l32_9, l32_10, l32_11, l32_12, l32_13, l32_14, l32_15, l32_16, l32_17, l32_18, l32_19, l32_20, l32_21, l32_22, l32_23, l32_24, l32_25, l32_26, l32_27, l32_28, l32_29, l32_33, l32_40, l32_41, l32_44, l32_45, l32_59, l32_61, l32_91, l32_93, l32_123, l32_125, h51]
  | succ d ih =>
    intro i q s hi h48 h51
    have hi1 : i < z := by omega
    have n1 : ¬ n + z ≤ n + i := by omega
    have hwi : wk k * i + wk k ≤ wk k * z := by
      have := Nat.mul_le_mul_left (wk k) (show i + 1 ≤ z by omega)
      rw [Nat.mul_succ] at this
      exact this
    by_cases k3 : k = 3
    · subst k3
      have hw3 : wk 3 = 2 := rfl
      rw [hw3] at hwi h48 hf
      obtain ⟨s0, hs0⟩ : ∃ s0, s0 = mI (mA s 47 (upd (s.2.2.1 47) (f + 2 + 2 * i) (s.2.2.1 49 (n + i)))) 48 (Int32.ofNat (f + 2 + 2 * i + 1)) := ⟨_, rfl⟩
      obtain ⟨s1, hs1⟩ : ∃ s1, s1 = mI (mA s0 47 (upd (s0.2.2.1 47) (f + 2 + 2 * i + 1) (cvl s n f i))) 48 (Int32.ofNat (f + 2 + 2 * i + 1 + 1)) := ⟨_, rfl⟩
      have e47 : s1.2.2.1 47 = upd (upd (s.2.2.1 47) (f + 2 + 2 * i) (s.2.2.1 49 (n + i))) (f + 2 + 2 * i + 1) (cvl s n f i) := by rw [hs1, hs0]; rfl
      have e49 : s1.2.2.1 49 = s.2.2.1 49 := by rw [hs1, hs0]; rfl
      have e50 : s1.2.2.1 50 = s.2.2.1 50 := by rw [hs1, hs0]; rfl
      have ec : ∀ j, cvl s1 n f j = cvl s n f j := fun j => by unfold cvl; rw [e49, e50]
      have h480 : s0.1 48 = Int32.ofNat (f + 2 + 2 * i + 1) := by rw [hs0]; rfl
      have e490 : s0.2.2.1 49 = s.2.2.1 49 := by rw [hs0]; rfl
      have e500 : s0.2.2.1 50 = s.2.2.1 50 := by rw [hs0]; rfl
      obtain ⟨s2, a1, a2, a3, a4, a5⟩ := ih (i + 1) q s1 (by omega) (by rw [hs1]; show Int32.ofNat _ = Int32.ofNat _; congr 1) (by rw [hs1, hs0]; exact h51)
      rw [hw3] at a2 a3 a4
      rw [hw3]
      refine ⟨s2, ?_, a2, fun j hj z => ?_, fun y hy => ?_, ?_⟩
      · rw [← a1]
        show mf_305_239 N (mf_305_L2 N (q + (d + 1))) (Int32.ofNat 3) (Int32.ofNat n) (Int32.ofNat f) (Int32.ofNat (n + i)) s = _
        have st1 : mf_305_239 N (mf_305_L2 N (q + (d + 1))) (Int32.ofNat 3) (Int32.ofNat n) (Int32.ofNat f) (Int32.ofNat (n + i)) s = mf_305_279 N (mf_305_L2 N (q + (d + 1))) (Int32.ofNat 3) (Int32.ofNat n) (Int32.ofNat f) (Int32.ofNat (n + i)) s0 := by
          unfold mf_305_239 mf_305_248 mf_305_253
          simp (disch := omega) only [ev_S, ev_P, ↓reduceIte, Nat.reduceEqDiff, Nat.reduceLeDiff, Nat.reduceAdd, Nat.reduceMul, Nat.reduceSub, reduceCtorEq, l32_0, l32_1, l32_2, l32_3, l32_4, l32_5, l32_6, l32_7, l32_8, l32_9, l32_10, l32_11, l32_12, l32_13, l32_14, l32_15, l32_16, l32_17, l32_18, l32_19, l32_20, l32_21, l32_22, l32_23, l32_24, l32_25, l32_26, l32_27, l32_28, l32_29, l32_33, l32_40, l32_41, l32_44, l32_45, l32_59, l32_61, l32_91, l32_93, l32_123, l32_125, h51, h48, n1]
          rw [hs0]
        rw [st1, hs1]
        unfold mf_305_279
        rw [if_pos (gd (K := 9000) (m := n + i) rfl (by omega) (by omega)), ev_S.1 (by omega), e490]
        unfold cvl
        by_cases c : s.2.2.1 49 (n + i) = Int32.ofNat 1
        · rw [if_neg (fun z => z c), if_pos c]
          unfold mf_305_298 mf_305_318
          simp (disch := omega) only [ev_S, ev_P, ↓reduceIte, Nat.reduceEqDiff, Nat.reduceLeDiff, Nat.reduceAdd, Nat.reduceMul, Nat.reduceSub, reduceCtorEq, l32_0, l32_1, l32_2, l32_3, l32_4, l32_5, l32_6, l32_7, l32_8, l32_9, l32_10, l32_11, l32_12, l32_13, l32_14, l32_15, l32_16, l32_17, l32_18, l32_19, l32_20, l32_21, l32_22, l32_23, l32_24, l32_25, l32_26, l32_27, l32_28, l32_29, l32_33, l32_40, l32_41, l32_44, l32_45, l32_59, l32_61, l32_91, l32_93, l32_123, l32_125, h480, e500]
          rfl
        · rw [if_pos (show ¬ s.2.2.1 49 (n + i) = 1 from c), if_neg c]
          unfold mf_305_311 mf_305_318
          simp (disch := omega) only [ev_S, ev_P, ↓reduceIte, Nat.reduceEqDiff, Nat.reduceLeDiff, Nat.reduceAdd, Nat.reduceMul, Nat.reduceSub, reduceCtorEq, l32_0, l32_1, l32_2, l32_3, l32_4, l32_5, l32_6, l32_7, l32_8, l32_9, l32_10, l32_11, l32_12, l32_13, l32_14, l32_15, l32_16, l32_17, l32_18, l32_19, l32_20, l32_21, l32_22, l32_23, l32_24, l32_25, l32_26, l32_27, l32_28, l32_29, l32_33, l32_40, l32_41, l32_44, l32_45, l32_59, l32_61, l32_91, l32_93, l32_123, l32_125, h480, e500]
          rfl
      · by_cases y : i + 1 ≤ j
        · obtain ⟨b1, b2⟩ := a3 j y z
          rw [ec] at b1
          rw [e49] at b2
          exact ⟨b1, b2⟩
        · have y : j = i := by omega
          subst y
          rw [a4 _ (by omega), a4 _ (by omega), e47]
          refine ⟨?_, fun _ => ?_⟩
          · show (if f + 1 + 2 * (j + 1) = f + 2 + 2 * j + 1 then _ else _) = _
            exact if_pos (by omega)
          · show (if f + 2 + 2 * j = f + 2 + 2 * j + 1 then _ else if f + 2 + 2 * j = f + 2 + 2 * j then _ else _) = _
            rw [if_neg (by omega), if_pos rfl]
      · rw [a4 y (by omega), e47]
        show (if y = f + 2 + 2 * i + 1 then _ else if y = f + 2 + 2 * i then _ else _) = _
        rw [if_neg (by omega), if_neg (by omega)]
      · refine mfr.tr ⟨fun q r => ?_, fun q r => ?_, fun q r => ?_, fun q r => ?_⟩ a5
        · rw [hs1, hs0]
          show (if q = 48 then _ else if q = 48 then _ else s.1 q) = _
          rw [if_neg r, if_neg r]
        · rw [hs1, hs0]
          rfl
        · rw [hs1, hs0]
          show (if q = 47 then _ else if q = 47 then _ else s.2.2.1 q) = _
          rw [if_neg r, if_neg r]
        · rw [hs1, hs0]
          rfl
    · have hw1 : wk k = 1 := if_neg k3
      have k3' : ¬ Int32.ofNat k = 3 := fun y => k3 (ofNat_inj (by omega) (by omega) y)
      rw [hw1] at hwi h48 hf
      obtain ⟨s1, hs1⟩ : ∃ s1, s1 = mI (mA s 47 (upd (s.2.2.1 47) (f + 2 + 1 * i) (cvl s n f i))) 48 (Int32.ofNat (f + 2 + 1 * i + 1)) := ⟨_, rfl⟩
      have e47 : s1.2.2.1 47 = upd (s.2.2.1 47) (f + 2 + 1 * i) (cvl s n f i) := by rw [hs1]; rfl
      have e49 : s1.2.2.1 49 = s.2.2.1 49 := by rw [hs1]; rfl
      have e50 : s1.2.2.1 50 = s.2.2.1 50 := by rw [hs1]; rfl
      have ec : ∀ j, cvl s1 n f j = cvl s n f j := fun j => by unfold cvl; rw [e49, e50]
      obtain ⟨s2, a1, a2, a3, a4, a5⟩ := ih (i + 1) q s1 (by omega) (by rw [hs1, hw1]; show Int32.ofNat _ = Int32.ofNat _; congr 1) (by rw [hs1]; exact h51)
      rw [hw1] at a2 a3 a4
      rw [hw1]
      refine ⟨s2, ?_, a2, fun j hj z => ?_, fun y hy => ?_, ?_⟩
      · rw [← a1]
        show mf_305_239 N (mf_305_L2 N (q + (d + 1))) (Int32.ofNat k) (Int32.ofNat n) (Int32.ofNat f) (Int32.ofNat (n + i)) s = _
        have st1 : mf_305_239 N (mf_305_L2 N (q + (d + 1))) (Int32.ofNat k) (Int32.ofNat n) (Int32.ofNat f) (Int32.ofNat (n + i)) s = mf_305_279 N (mf_305_L2 N (q + (d + 1))) (Int32.ofNat k) (Int32.ofNat n) (Int32.ofNat f) (Int32.ofNat (n + i)) s := by
          unfold mf_305_239 mf_305_248
          rw [if_pos k3']
          simp (disch := omega) only [ev_S, ev_P, ↓reduceIte, Nat.reduceEqDiff, Nat.reduceLeDiff, Nat.reduceAdd, Nat.reduceMul, Nat.reduceSub, reduceCtorEq, l32_0, l32_1, l32_2, l32_3, l32_4, l32_5, l32_6, l32_7, l32_8, l32_9, l32_10, l32_11, l32_12, l32_13, l32_14, l32_15, l32_16, l32_17, l32_18, l32_19, l32_20, l32_21, l32_22, l32_23, l32_24, l32_25, l32_26, l32_27, l32_28, l32_29, l32_33, l32_40, l32_41, l32_44, l32_45, l32_59, l32_61, l32_91, l32_93, l32_123, l32_125, h51, n1]
        rw [st1, hs1]
        unfold mf_305_279
        rw [if_pos (gd (K := 9000) (m := n + i) rfl (by omega) (by omega)), ev_S.1 (by omega)]
        unfold cvl
        by_cases c : s.2.2.1 49 (n + i) = Int32.ofNat 1
        · rw [if_neg (fun z => z c), if_pos c]
          unfold mf_305_298 mf_305_318
          simp (disch := omega) only [ev_S, ev_P, ↓reduceIte, Nat.reduceEqDiff, Nat.reduceLeDiff, Nat.reduceAdd, Nat.reduceMul, Nat.reduceSub, reduceCtorEq, l32_0, l32_1, l32_2, l32_3, l32_4, l32_5, l32_6, l32_7, l32_8, l32_9, l32_10, l32_11, l32_12, l32_13, l32_14, l32_15, l32_16, l32_17, l32_18, l32_19, l32_20, l32_21, l32_22, l32_23, l32_24, l32_25, l32_26, l32_27, l32_28, l32_29, l32_33, l32_40, l32_41, l32_44, l32_45, l32_59, l32_61, l32_91, l32_93, l32_123, l32_125, h48]
          rfl
        · rw [if_pos (show ¬ s.2.2.1 49 (n + i) = 1 from c), if_neg c]
          unfold mf_305_311 mf_305_318
          simp (disch := omega) only [ev_S, ev_P, ↓reduceIte, Nat.reduceEqDiff, Nat.reduceLeDiff, Nat.reduceAdd, Nat.reduceMul, Nat.reduceSub, reduceCtorEq, l32_0, l32_1, l32_2, l32_3, l32_4, l32_5, l32_6, l32_7, l32_8, l32_9, l32_10, l32_11, l32_12, l32_13, l32_14, l32_15, l32_16, l32_17, l32_18, l32_19, l32_20, l32_21, l32_22, l32_23, l32_24, l32_25, l32_26, l32_27, l32_28, l32_29, l32_33, l32_40, l32_41, l32_44, l32_45, l32_59, l32_61, l32_91, l32_93, l32_123, l32_125, h48]
          rfl
      · by_cases y : i + 1 ≤ j
        · obtain ⟨b1, b2⟩ := a3 j y z
          rw [ec] at b1
          exact ⟨b1, fun z => absurd z k3⟩
        · have y : j = i := by omega
          subst y
          rw [a4 _ (by omega), e47]
          refine ⟨?_, fun z => absurd z k3⟩
          show (if f + 1 + 1 * (j + 1) = f + 2 + 1 * j then _ else _) = _
          exact if_pos (by omega)
      · rw [a4 y (by omega), e47]
        exact if_neg (by omega)
      · refine mfr.tr ⟨fun q r => ?_, fun q r => ?_, fun q r => ?_, fun q r => ?_⟩ a5
        · rw [hs1]
          exact if_neg r
        · rw [hs1]
          rfl
        · rw [hs1]
          exact if_neg r
        · rw [hs1]
          rfl
end RBW
end
-- ### 95n.pure.lean.txt
section
/-! ===== PURE: run (15): builds, all of it ===== -/
section RBB
variable {N k : Nat} {s s' : mS} {f f' n m : Nat} {xs : List Nod}
theorem szR {x : Nod} (h : kdN x = 1) : szN x = (rvN x).length := by
  show szV (vw x) = _
  rw [kd1 h]
  rfl
theorem grT : ∀ {xs : List Nod}, (∀ x ∈ xs, kdN x = 1) → ((xs.map rvN).map fun r => 4 + r.length).sum = (xs.map fun x => 2 + szN x).sum + 2 * xs.length
  | [], _ => rfl
  | x :: xs, h => by
    have ih := grT (xs := xs) (fun y hy => h y (List.mem_cons_of_mem _ hy))
    have hz := szR (h x List.mem_cons_self)
    rw [List.map_cons, List.map_cons, List.sum_cons, ih, List.map_cons, List.sum_cons, hz, List.length_cons]
    omega
theorem LayN_vw {h : Nat → Int32} {R : Nat → Prop} {a : Nat} {x y : Nod} (e : vw y = vw x) (H : LayN h R a x) : LayN h R a y := by
  refine LayN_iff.mpr ?_
  rw [e]
  exact LayN_iff.mp H
/-- what the cells of a THING just built say -/
theorem bld_lay {h0 h : Nat → Int32} {sk sv : Nat → Int32} {y : Nod} (hfl : 154240 ≤ f) (hok : mkOk k xs) (hm : mk k xs = some y) (hv : ∀ i (hi : i < xs.length), rvl h0 f (sk (n + i)) (sv (n + i)) xs[i]) (h0f : ∀ z, z < f → h z = h0 z) (e0 : h f = Int32.ofNat k) (e1 : h (f + 1) = Int32.ofNat xs.length) (ec : ∀ j, j < xs.length → h (f + 1 + wk k * (j + 1)) = (if sk (n + j) = Int32.ofNat 1 then sv (n + j) - Int32.ofNat f else sv (n + j)) ∧ (k = 3 → h (f + 2 + 2 * j) = sk (n + j))) : LayN h (Rf (f + 2 + wk k * xs.length)) f y := by
  have hsub : ∀ a : Nat, Int32.ofNat f + (Int32.ofNat a - Int32.ofNat f) = Int32.ofNat a := fun a => by
    rw [Int32.add_comm]
    exact Int32.sub_add_cancel _ _
  have up : ∀ {a : Nat} {x : Nod}, LayN h0 (Rf f) a x → LayN h (Rf (f + 2 + wk k * xs.length)) a x := fun H => LayN.congr (fun y z => ⟨Nat.lt_of_lt_of_le z.1 (by omega), z.2⟩) (fun y z => h0f y z.1) H
  rcases hok with ⟨rfl, hk⟩ | ⟨rfl, hk⟩ | rfl
  · have em : mk 1 xs = if xs.length ≤ 64 then some (mkR xs) else none := rfl
    rw [em] at hm
    split at hm
    · cases hm
      have hl : (xs.map ivN).length = xs.length := List.length_map ..
      refine LayN_iff.mpr ⟨fun y y1 y2 => ?_, e0, ?_, fun i hi => ?_⟩
      · have y2 : y < f + (2 + (xs.map ivN).length) := y2
        rw [hl] at y2
        show y < f + 2 + 1 * xs.length ∧ (y < 19280 ∨ 154240 ≤ y)
        omega
      · rw [e1, hl]
      · have hi' : i < xs.length := by omega
        have c1 := (ec i hi').1
        have h0 := kd0 (hk _ (List.getElem_mem hi'))
        rw [show f + 2 + i = f + 1 + wk 1 * (i + 1) by show _ = f + 1 + 1 * (i + 1); omega, c1]
        rcases hv i hi' with ⟨b1, b2⟩ | ⟨-, b2, -⟩
        · rw [b1, if_neg (by decide), List.getElem_map]
          rw [h0] at b2
          exact (Option.some.inj b2).symm
        · rw [h0] at b2
          cases b2
    · cases hm
  · have em : mk 2 xs = if xs.length ≤ 20 ∧ (xs.map szN).sum ≤ 200 then some (mkT xs) else none := rfl
    rw [em] at hm
    split at hm
    · cases hm
      have hl : (xs.map rvN).length = xs.length := List.length_map ..
      refine LayN_iff.mpr ⟨fun y y1 y2 => ?_, e0, ?_, fun i hi => ?_⟩
      · have y2 : y < f + (2 + (xs.map rvN).length) := y2
        rw [hl] at y2
        show y < f + 2 + 1 * xs.length ∧ (y < 19280 ∨ 154240 ≤ y)
        omega
      · rw [e1, hl]
      · have hi' : i < xs.length := by omega
        have c1 := (ec i hi').1
        have h0 := kd1 (hk _ (List.getElem_mem hi'))
        rw [show f + 2 + i = f + 1 + wk 2 * (i + 1) by show _ = f + 1 + 1 * (i + 1); omega, c1]
        rcases hv i hi' with ⟨b1, b2⟩ | ⟨b1, b2, a, b3, b4⟩
        · rw [h0] at b2
          cases b2
        · rw [b1, if_pos rfl, b3, List.getElem_map]
          exact ⟨a, hsub a, up (LayN_vw (x := xs[i]) h0.symm b4)⟩
    · cases hm
  · have em : mk 3 xs = if xs.length ≤ 20 ∧ 1 + (xs.map bulkN).sum ≤ 600 ∧ 1 + mxL (xs.map dN) ≤ 4 then some (mkP xs) else none := rfl
    rw [em] at hm
    split at hm
    · rename_i hq
      cases hm
      have hl : (xs.map (cs 3)).length = xs.length := List.length_map ..
      refine LayN_iff.mpr ⟨fun y y1 y2 => ?_, e0, ?_, fun i hi => ?_⟩
      · have y2 : y < f + (2 + 2 * (xs.map (cs 3)).length) := y2
        rw [hl] at y2
        show y < f + 2 + 2 * xs.length ∧ (y < 19280 ∨ 154240 ≤ y)
        omega
      · rw [e1, hl]
      · have hi' : i < xs.length := by omega
        obtain ⟨c1, c2⟩ := ec i hi'
        have c2 := c2 rfl
        have hd3 : dN xs[i] ≤ 3 := mxL_le.mp (show mxL (xs.map dN) ≤ 3 by omega) _ (List.mem_map.mpr ⟨_, List.getElem_mem hi', rfl⟩)
        rw [List.getElem_map]
        have ei := cs_int hd3
        rw [show f + 1 + wk 3 * (i + 1) = f + 3 + 2 * i by show f + 1 + 2 * (i + 1) = _; omega] at c1
        rcases hv i hi' with ⟨b1, b2⟩ | ⟨b1, b2, a, b3, b4⟩
        · rw [b1, if_neg (by decide)] at c1
          rw [b1] at c2
          refine ⟨fun z hz => ?_, fun hz => ?_⟩
          · rw [ei, b2] at hz
            cases hz
            exact ⟨c2, c1⟩
          · rw [ei, b2] at hz
            cases hz
        · rw [b1, if_pos rfl, b3] at c1
          rw [b1] at c2
          refine ⟨fun z hz => ?_, fun hz => ?_⟩
          · rw [ei, b2] at hz
            cases hz
          · refine ⟨c2, a, ?_, cs_lay hd3 (up b4)⟩
            rw [c1]
            exact hsub a
    · cases hm
theorem mk_grw {y : Nod} (hok : mkOk k xs) (hm : mk k xs = some y) : 4 + wk k * xs.length + grw k xs ≤ ctV (vw y) ∧ ctV (vw y) ≤ 700 := by
  rcases hok with ⟨rfl, hk⟩ | ⟨rfl, hk⟩ | rfl
  · have em : mk 1 xs = if xs.length ≤ 64 then some (mkR xs) else none := rfl
    rw [em] at hm
    split at hm
    · cases hm
      show 4 + 1 * xs.length + 0 ≤ 4 + (xs.map ivN).length ∧ 4 + (xs.map ivN).length ≤ 700
      rw [List.length_map]
      omega
    · cases hm
  · have em : mk 2 xs = if xs.length ≤ 20 ∧ (xs.map szN).sum ≤ 200 then some (mkT xs) else none := rfl
    rw [em] at hm
    split at hm
    · cases hm
      rename_i hq
      show 4 + 1 * xs.length + (xs.map fun x => 2 + szN x).sum ≤ 4 + ((xs.map rvN).map fun r => 4 + r.length).sum ∧ 4 + ((xs.map rvN).map fun r => 4 + r.length).sum ≤ 700
      rw [grT hk]
      have : ∀ l : List Nod, (l.map fun x => 2 + szN x).sum = 2 * l.length + (l.map szN).sum := fun l => by
        induction l with
        | nil => rfl
        | cons x l ih => rw [List.map_cons, List.sum_cons, ih, List.map_cons, List.sum_cons, List.length_cons]; omega
      have := this xs
      omega
    · cases hm
  · have em : mk 3 xs = if xs.length ≤ 20 ∧ 1 + (xs.map bulkN).sum ≤ 600 ∧ 1 + mxL (xs.map dN) ≤ 4 then some (mkP xs) else none := rfl
    rw [em] at hm
    split at hm
    · cases hm
      show 4 + 2 * xs.length + 0 ≤ 4 + 2 * (xs.map (cs 3)).length ∧ 4 + 2 * (xs.map (cs 3)).length ≤ 700
      rw [List.length_map]
      omega
    · cases hm
theorem mkOk.kk (h : mkOk k xs) : k = 1 ∨ k = 2 ∨ k = 3 := by
  rcases h with ⟨h, -⟩ | ⟨h, -⟩ | h
  · exact Or.inl h
  · exact Or.inr (Or.inl h)
  · exact Or.inr (Or.inr h)
theorem fMe.v (h : fMe s s') : vfr n f s s' ∧ s'.1 62 = s.1 62 ∧ s'.1 66 = s.1 66 ∧ s'.1 67 = s.1 67 ∧ s'.1 48 = s.1 48 ∧ s'.1 51 = s.1 51 ∧ s'.1 70 = s.1 70 := by
  refine ⟨⟨⟨fun q r => h.1 q (fun z => r ?_), fun q _ => h.2.1 q (fun z => z), fun q r => h.2.2.1 q (fun z => r ?_), h.2.2.2⟩, fun y hy => ?_, fun y hy => ?_⟩, h.1 _ (by omega), h.1 _ (by omega), h.1 _ (by omega), h.1 _ (by omega), h.1 _ (by omega), h.1 _ (by omega)⟩
  · unfold vfI
    omega
  · unfold vfA
    omega
  · rw [h.2.2.1 49 (by omega), h.2.2.1 50 (by omega)]
    exact ⟨rfl, rfl⟩
  · rw [h.2.2.1 47 (by omega)]
theorem trb_v {k p : Int32} : vfr n f s (trb s k p) := by
  refine ⟨⟨fun q r => ?_, fun _ _ => rfl, fun _ _ => rfl, fun _ _ => rfl⟩, fun y hy => ⟨rfl, rfl⟩, fun y hy => rfl⟩
  show (if q = 67 then _ else if q = 66 then _ else s.1 q) = _
  unfold vfI at r
  rw [if_neg (by omega), if_neg (by omega)]
theorem vfr.i70 (h : vfr n f s s') : s'.1 70 = s.1 70 := h.1.1 70 (by unfold vfI; omega)
theorem r_builds (hN : 170000 ≤ N) (H : rG s s' n f f' xs) (hok : mkOk k xs) (h66 : s.1 66 = Int32.ofNat 0) (h62 : s.1 62 = Int32.ofNat m) (hm3 : m ≤ 3000) (hw : ∀ x ∈ xs, wfN x) (hd : ∀ x ∈ xs, x.1 ≤ 4) (hg : f' ≤ f + grw k xs) (h300 : f' ≤ f + 300) (hf : 154240 ≤ f' ∧ f' + 200 ≤ 166300) (hl : xs.length ≤ 3000) (hn : n + xs.length < 9000) : ∃ s'', mf_305 N (Int32.ofNat k) (Int32.ofNat n) s' = some (s'', none) ∧ rE s s'' n f m (ansM k xs) := by
  obtain ⟨⟨h51, h48, hff⟩, hv, hvf, g62, g66, g67⟩ := H
  obtain ⟨s2, fm, e⟩ := r_great (N := N) hN (s := s') (n := n) (f := f') (xs := xs) ⟨h51, hv⟩ hok (by omega) hn hw hd hl
  obtain ⟨v1, v2, v3, v4, v5, v6, v7⟩ := fMe.v (n := n) (f := f') fm
  rw [e]
  unfold ansM
  cases hmk : mk k xs with
  | none =>
    rw [if_pos rfl]
    have tr := r_trb (N := N) (s := s2) (k := Int32.ofNat 2) (p := s2.1 70) (by rw [v3, g66, h66])
    refine ⟨trb s2 (Int32.ofNat 2) (s2.1 70), ?_, f', hff, v5.trans h48, (vfr.tr hvf v1 hff).tr trb_v (Nat.le_refl f), h300, ?_, rfl, ?_⟩
    · unfold mf_305_218 mf_305_227
      show mo_bv (mf_301 N (Int32.ofNat 2) (s2.1 70) s2) _ = _
      rw [tr]
      rfl
    · show s2.1 62 = _
      rw [v2, g62, h62]
    · show s2.1 70 = _
      rw [v7, hvf.i70]
  | some y =>
    rw [if_neg (by intro z; cases z)]
    have hk := mkOk.kk hok
    have hgr := mk_grw hok hmk
    have hwk : wk k * xs.length + 2 ≤ 200 ∨ True := Or.inr trivial
    have hl64 : xs.length ≤ 64 := by
      rcases hok with ⟨rfl, hk⟩ | ⟨rfl, hk⟩ | rfl
      · by_cases z : xs.length ≤ 64
        · exact z
        · rw [show mk 1 xs = if xs.length ≤ 64 then some (mkR xs) else none from rfl, if_neg z] at hmk
          cases hmk
      · by_cases z : xs.length ≤ 20 ∧ (xs.map szN).sum ≤ 200
        · omega
        · rw [show mk 2 xs = if xs.length ≤ 20 ∧ (xs.map szN).sum ≤ 200 then some (mkT xs) else none from rfl, if_neg z] at hmk
          cases hmk
      · by_cases z : xs.length ≤ 20 ∧ 1 + (xs.map bulkN).sum ≤ 600 ∧ 1 + mxL (xs.map dN) ≤ 4
        · omega
        · rw [show mk 3 xs = if xs.length ≤ 20 ∧ 1 + (xs.map bulkN).sum ≤ 600 ∧ 1 + mxL (xs.map dN) ≤ 4 then some (mkP xs) else none from rfl, if_neg z] at hmk
          cases hmk
    have hwk2 : wk k ≤ 2 := by show (if k = 3 then 2 else 1) ≤ 2; split <;> omega
    have hwl : wk k * xs.length ≤ 128 := Nat.le_trans (Nat.mul_le_mul hwk2 hl64) (by omega)
    have h48' : s2.1 48 = Int32.ofNat f' := v5.trans h48
    obtain ⟨s3, hs3⟩ : ∃ s3, s3 = mI (mA (mA s2 47 (upd (s2.2.2.1 47) f' (Int32.ofNat k))) 47 (upd (upd (s2.2.2.1 47) f' (Int32.ofNat k)) (f' + 1) (Int32.ofNat xs.length))) 48 (Int32.ofNat (f' + 2)) := ⟨_, rfl⟩
    have e47 : s3.2.2.1 47 = upd (upd (s2.2.2.1 47) f' (Int32.ofNat k)) (f' + 1) (Int32.ofNat xs.length) := by rw [hs3]; rfl
    have hb : mf_304 N (Int32.ofNat k) (Int32.ofNat xs.length) s2 = some (s3, some (.int (Int32.ofNat f'))) := by
      rw [hs3]
      unfold mf_304 mf_304_0
      simp (disch := omega) only [ev_S, ev_P, ↓reduceIte, Nat.reduceEqDiff, Nat.reduceLeDiff, Nat.reduceAdd, Nat.reduceMul, Nat.reduceSub, reduceCtorEq, l32_0, l32_1, l32_2, l32_3, l32_4, l32_5, l32_6, l32_7, l32_8, l32_9, l32_10, l32_11, l32_12, l32_13, l32_14, l32_15, l32_16, l32_17, l32_18, l32_19, l32_20, l32_21, l32_22, l32_23, l32_24, l32_25, l32_26, l32_27, l32_28, l32_29, l32_33, l32_40, l32_41, l32_44, l32_45, l32_59, l32_61, l32_91, l32_93, l32_123, l32_125, h48']
    obtain ⟨s4, a1, a2, a3, a4, a5⟩ := r_bw (N := N) (f := f') (n := n) hk (z := xs.length) hn (by omega) xs.length 0 (N - (xs.length + 1)) s3 (Nat.zero_add _) (by rw [hs3]; rfl) (by rw [hs3]; show s2.1 51 = _; rw [v6, h51])
    rw [show N - (xs.length + 1) + (xs.length + 1) = N by omega] at a1
    have e49 : s3.2.2.1 49 = s'.2.2.1 49 := by rw [hs3]; show s2.2.2.1 49 = _; exact fm.2.2.1 49 (by omega)
    have e50 : s3.2.2.1 50 = s'.2.2.1 50 := by rw [hs3]; show s2.2.2.1 50 = _; exact fm.2.2.1 50 (by omega)
    have e472 : s2.2.2.1 47 = s'.2.2.1 47 := fm.2.2.1 47 (by omega)
    have h0f : ∀ z, z < f' → s4.2.2.1 47 z = s'.2.2.1 47 z := fun z hz => by
      rw [a4 z (by omega), e47, ← e472]
      show (if z = f' + 1 then _ else if z = f' then _ else _) = _
      rw [if_neg (by omega), if_neg (by omega)]
    have HL := bld_lay (h := s4.2.2.1 47) hf.1 hok hmk hv h0f (by
        rw [a4 f' (by omega), e47]
        show (if f' = f' + 1 then _ else if f' = f' then _ else _) = _
        rw [if_neg (by omega), if_pos rfl]) (by
        rw [a4 (f' + 1) (by omega), e47]
        exact if_pos rfl) (fun j hj => by
        have z := a3 j (Nat.zero_le _) hj
        unfold cvl at z
        rw [e49, e50] at z
        exact z)
    obtain ⟨s5, hs5⟩ : ∃ s5, s5 = mI s4 51 (Int32.ofNat n) := ⟨_, rfl⟩
    have i4 : ∀ q, ¬ q = 48 → s4.1 q = s2.1 q := fun q hq => by
      rw [a5.1 q hq, hs3]
      exact if_neg hq
    have HG := r_gives (N := N) (s := s5) (n := n) (m := m) hN (by rw [hs5]; exact HL) (by omega) (by rw [hs5]; show s4.1 66 = _; rw [i4 66 (by omega), v3, g66, h66]) (by rw [hs5]; show s4.1 62 = _; rw [i4 62 (by omega), v2, g62, h62]) (by omega) (by rw [hs5]; rfl) (by omega)
    have hS5 : vfr n f' s2 s5 := by
      rw [hs5]
      refine ⟨⟨fun q r => ?_, fun q r => ?_, fun q r => ?_, fun q r => ?_⟩, fun y hy => ⟨?_, ?_⟩, fun y hy => ?_⟩
      · show (if q = 51 then _ else s4.1 q) = _
        unfold vfI at r
        rw [if_neg (by omega), i4 q (by omega)]
      · show s4.2.1 q = _
        rw [a5.2.1 q (fun z => z), hs3]
        rfl
      · show s4.2.2.1 q = _
        unfold vfA at r
        rw [a5.2.2.1 q (by omega), hs3]
        show (if q = 47 then _ else if q = 47 then _ else s2.2.2.1 q) = _
        rw [if_neg (by omega), if_neg (by omega)]
      · show s4.2.2.2 q = _
        rw [a5.2.2.2 q r, hs3]
        rfl
      · show s4.2.2.1 49 y = _
        rw [a5.2.2.1 49 (by omega), e49, fm.2.2.1 49 (by omega)]
      · show s4.2.2.1 50 y = _
        rw [a5.2.2.1 50 (by omega), e50, fm.2.2.1 50 (by omega)]
      · show s4.2.2.1 47 y = _
        rw [h0f y hy, e472]
    have hT : vfr n f s s5 := (vfr.tr hvf v1 hff).tr hS5 hff
    have h70 : s5.1 70 = s.1 70 := hT.i70
    have h665 : s5.1 66 = s.1 66 := by rw [hs5]; show s4.1 66 = _; rw [i4 66 (by omega), v3, g66]
    have h675 : s5.1 67 = s.1 67 := by rw [hs5]; show s4.1 67 = _; rw [i4 67 (by omega), v4, g67]
    have h485 : s5.1 48 = Int32.ofNat (f' + 2 + wk k * xs.length) := by rw [hs5]; exact a2
    have HL5 : LayN (s5.2.2.1 47) (Rf (f' + 2 + wk k * xs.length)) f' y := by rw [hs5]; exact HL
    have hiv : intV (vw y) = none := by
      have z := (LayN_iff.mp HL5).2
      revert z
      cases vw y with
      | inl z => intro z; exact z.elim
      | inr w => intro _; rfl
    have hpu : ∀ s6 : mS, vfr n f s s6 → vfr n f s (pus s6 n (Int32.ofNat 1) (Int32.ofNat f')) := fun s6 h6 => by
      refine ⟨⟨fun q r => ?_, h6.1.2.1, fun q r => ?_, h6.1.2.2.2⟩, fun y hy => ⟨?_, ?_⟩, h6.2.2⟩
      · show (if q = 51 then _ else s6.1 q) = _
        rw [if_neg (fun z => r (by unfold vfI; omega))]
        exact h6.1.1 q r
      · show (if q = 50 then _ else if q = 49 then _ else s6.2.2.1 q) = _
        rw [if_neg (fun z => r (by unfold vfA; omega)), if_neg (fun z => r (by unfold vfA; omega))]
        exact h6.1.2.2.1 q r
      · show (if y = n then _ else s6.2.2.1 49 y) = _
        rw [if_neg (by omega)]
        exact (h6.2.1 y hy).1
      · show (if y = n then _ else s6.2.2.1 50 y) = _
        rw [if_neg (by omega)]
        exact (h6.2.1 y hy).2
    have h62v : ∀ x : Int32, vfr n f s (mI s5 62 x) := fun x => ⟨⟨fun q r => by
        show (if q = 62 then _ else s5.1 q) = _
        rw [if_neg (fun z => r (by unfold vfI; omega))]
        exact hT.1.1 q r, hT.1.2.1, hT.1.2.2.1, hT.1.2.2.2⟩, hT.2.1, hT.2.2⟩
    generalize hcv : ctV (vw y) = cv at *
    refine ⟨_, ?_, f' + 2 + wk k * xs.length, by omega, ?_, hpu (if m + cv ≤ 3000 then mI s5 62 (Int32.ofNat (m + cv)) else trb (mI s5 62 (Int32.ofNat (m + cv))) (Int32.ofNat 11) (s5.1 70)) ?_, ?_, rfl, Or.inr ⟨if_pos rfl, hiv, f', if_pos rfl, ?_⟩, ?_, ?_⟩
    · unfold mf_305_228 mf_305_234
      rw [hb]
      show mf_305_L2 N N 0 (Int32.ofNat k) (Int32.ofNat n) (Int32.ofNat f') (Int32.ofNat (n + 0)) s3 = _
      rw [a1]
      unfold mf_305_335 mf_305_346
      rw [← hs5, HG]
      rfl
    · show (if m + cv ≤ 3000 then mI s5 62 (Int32.ofNat (m + cv)) else trb (mI s5 62 (Int32.ofNat (m + cv))) (Int32.ofNat 11) (s5.1 70)).1 48 = _
      split
      · exact h485
      · exact h485
    · split
      · exact h62v _
      · exact (h62v _).tr trb_v (Nat.le_refl f)
    · rw [hcv]
      omega
    · show LayN ((if m + cv ≤ 3000 then mI s5 62 (Int32.ofNat (m + cv)) else trb (mI s5 62 (Int32.ofNat (m + cv))) (Int32.ofNat 11) (s5.1 70)).2.2.1 47) _ _ _
      split
      · exact HL5
      · exact HL5
    · rw [hcv]
      show (if m + cv ≤ 3000 then mI s5 62 (Int32.ofNat (m + cv)) else trb (mI s5 62 (Int32.ofNat (m + cv))) (Int32.ofNat 11) (s5.1 70)).1 62 = _
      split
      · rfl
      · rfl
    · rw [hcv]
      by_cases z : m + cv ≤ 3000
      · rw [if_pos z]
        show ((if m + cv ≤ 3000 then mI s5 62 (Int32.ofNat (m + cv)) else trb (mI s5 62 (Int32.ofNat (m + cv))) (Int32.ofNat 11) (s5.1 70)).1 66 = _) ∧ ((if m + cv ≤ 3000 then mI s5 62 (Int32.ofNat (m + cv)) else trb (mI s5 62 (Int32.ofNat (m + cv))) (Int32.ofNat 11) (s5.1 70)).1 67 = _)
        rw [if_pos z]
        exact ⟨h665, h675⟩
      · rw [if_neg z]
        show ((if m + cv ≤ 3000 then mI s5 62 (Int32.ofNat (m + cv)) else trb (mI s5 62 (Int32.ofNat (m + cv))) (Int32.ofNat 11) (s5.1 70)).1 66 = _) ∧ ((if m + cv ≤ 3000 then mI s5 62 (Int32.ofNat (m + cv)) else trb (mI s5 62 (Int32.ofNat (m + cv))) (Int32.ofNat 11) (s5.1 70)).1 67 = _)
        rw [if_neg z]
        exact ⟨rfl, h70⟩
end RBB
end
-- ### 95o.pure.lean.txt
section
/-! ===== PURE: run (16): what the class gathers; ends of operations ===== -/
/-- what an operation of the class leaves alone: as hfr, but for the note of a division by 0 and the places in order -/
def hfw (t t' : cS) : Prop := (∀ k f, ¬ (k = 42 ∧ (f = 1 ∨ f = 3)) → ¬ (k = 58 ∧ f = 1) → kI t' k f = kI t k f) ∧ kL t' = kL t ∧ kP t' = kP t ∧ (∀ k, k ≠ 43 → k ≠ 44 → k ≠ 111 → (k ≠ 60 → kA t' k = kA t k) ∧ kB t' k = kB t k ∧ kD t' k = kD t k) ∧ kM t' = kM t ∧ kH t' = kH t ∧ kN t ≤ kN t' ∧ kN t' + pot t ≤ kN t + pot t' ∧ kQ t' + poq t ≤ kQ t + poq t' ∧ (kA t' 60).1 = (kA t 60).1
theorem hfw.rf {t : cS} : hfw t t := ⟨fun _ _ _ _ => rfl, rfl, rfl, fun _ _ _ _ => ⟨fun _ => rfl, rfl, rfl⟩, rfl, rfl, Nat.le_refl _, Nat.le_refl _, Nat.le_refl _, rfl⟩
theorem hfw.tr {t t1 t2 : cS} (h : hfw t t1) (g : hfw t1 t2) : hfw t t2 := by
  obtain ⟨h1, h2, h3, h4, h5, h6, h7, h8, h9, h10⟩ := h
  obtain ⟨g1, g2, g3, g4, g5, g6, g7, g8, g9, g10⟩ := g
  exact ⟨fun k f r r' => (g1 k f r r').trans (h1 k f r r'), g2.trans h2, g3.trans h3, fun k r1 r2 r3 => ⟨fun r4 => ((g4 k r1 r2 r3).1 r4).trans ((h4 k r1 r2 r3).1 r4), (g4 k r1 r2 r3).2.1.trans (h4 k r1 r2 r3).2.1, (g4 k r1 r2 r3).2.2.trans (h4 k r1 r2 r3).2.2⟩, g5.trans h5, g6.trans h6, Nat.le_trans h7 g7, by omega, by omega, g10.trans h10⟩
theorem hfr.w {t t' : cS} (h : hfr t t') : hfw t t' := by
  obtain ⟨h1, h2, h3, h4, h5, h6, h7, h8, h9⟩ := h
  exact ⟨fun k f r _ => h1 k f r, h2, h3, fun k r1 r2 r3 => ⟨fun _ => (h4 k r1 r2 r3).1, (h4 k r1 r2 r3).2.1, (h4 k r1 r2 r3).2.2⟩, h5, h6, h7, h8, h9, by rw [(h4 60 (by omega) (by omega) (by omega)).1]⟩
/-- from t on, xs was gathered from w on; used is now u' -/
def cG (t t' : cS) (u u' w : Nat) (xs : List Nod) : Prop := cHp t' u' (w + xs.length) ∧ hfw t t' ∧ u ≤ u' ∧ (∀ y, y < u → cel t' y = cel t y) ∧ (∀ y, y < w → prt t' y = prt t y) ∧ reps (cel t') u' (prt t') w xs
/-- the end of an operation in the class -/
def cE (t t' : cS) (u : Nat) (v : Int64) (r : Ans) : Prop := ∃ u' w', cHp t' u' w' ∧ hfw t t' ∧ u ≤ u' ∧ (∀ y, y < u → cel t' y = cel t y) ∧ match r with
  | .inl k => v = rf (Int32.ofNat k) ∧ u' ≤ u + 2000
  | .inr x => cN (cel t') u' v x ∧ u' ≤ u + ctV (vw x) ∧ wfN x ∧ x.1 ≤ 4
section CGS
variable {N k : Nat} {X : Nat → Option zz_C} {t t' t'' : cS} {u u' w i : Nat} {v : Int64} {x : Nod} {xs : List Nod} {zs : List Int32}
theorem cG.nil (h : cHp t u w) : cG t t u u w [] := ⟨h, hfw.rf, Nat.le_refl _, fun _ _ => rfl, fun _ _ => rfl, fun i hi => absurd hi (Nat.not_lt_zero _)⟩
theorem cG.up (H : cG t t' u u' w xs) (h : cN (cel t) u v x) : cN (cel t') u' v x := cN.mono H.2.2.2.1 H.2.2.1 h
theorem cG.put (H : cG t t' u u' w xs) (hw : w + xs.length < 61000) (hx : cN (cel t') u' v x) : ∃ t'', cf_123 N X v t' = some (t'', .inl none) ∧ cG t t'' u u' w (xs ++ [x]) := by
  obtain ⟨h1, h2, h3, h4, h5, h6⟩ := H
  obtain ⟨t2, e1, e2, e3, e4, e5, e6⟩ := c_put1 (N := N) (X := X) (v := v) h1 hw
  have ec : cel t2 = cel t' := by show (kB t2 43).2 = _; rw [e4]
  refine ⟨t2, e1, ?_, hfw.tr h2 e3.w, h3, fun y hy => ?_, fun y hy => ?_, fun i hi => ?_⟩
  · rw [List.length_append]
    exact e2
  · rw [ec]
    exact h4 y hy
  · rw [e6 y (by omega)]
    exact h5 y hy
  · rw [List.length_append] at hi
    have hi : i < xs.length + 1 := hi
    rw [ec]
    by_cases z : i < xs.length
    · rw [List.getElem_append_left z, e6 _ (by omega)]
      exact h6 i z
    · have z : i = xs.length := by omega
      subst z
      rw [List.getElem_append_right (Nat.le_refl _), e5]
      simp only [Nat.sub_self, List.getElem_cons_zero]
      exact hx
theorem cN_Z {g : Nat → Int64} {z : Int32} : cN g u (tg 0 z) (nZ z) := cN_iff.mpr rfl
theorem cG.build (hN : 170000 ≤ N) (H : cG t t' u u' w xs) (hok : mkOk k xs) (hw : ∀ x ∈ xs, wfN x) (hd : ∀ x ∈ xs, x.1 ≤ 4) (hl : xs.length ≤ 3000) (hw1 : w ≤ 100000) (hu : u' ≤ 166000) (hg : u' ≤ u + grw k xs + 1) (h2 : u' ≤ u + 2000) : ∃ t'' v, cf_126 N X (Int32.ofNat k) (Int32.ofNat w) t' = some (t'', .inl (some (.long v))) ∧ cE t t'' u v (ansM k xs) := by
  obtain ⟨h1, h3, h4, h5, h6, h7⟩ := H
  unfold ansM
  rcases c_build (N := N) (X := X) hN hok h1 h7 hw (fun x hx => Nat.le_trans (dT_le _ _) (hd x hx)) hl hw1 hu with ⟨y, e1, t2, v, e2, ⟨b1, b2, b3, b4, b5⟩, e4⟩ | ⟨e1, t2, e2, ⟨b1, b2, b3, b4, b5⟩⟩
  · rw [e1]
    have hgr := (mk_grw hok e1).1
    have hwf := mk_wf hok hw e1
    have hkk := mkOk.kk hok
    have hwk : k + xs.length + 1 ≤ 4 + wk k * xs.length := by
      rcases hkk with rfl | rfl | rfl
      · show 1 + xs.length + 1 ≤ 4 + 1 * xs.length
        omega
      · show 2 + xs.length + 1 ≤ 4 + 1 * xs.length
        omega
      · show 3 + xs.length + 1 ≤ 4 + 2 * xs.length
        omega
    refine ⟨t2, v, e2, u' + k + xs.length, w, b1, hfw.tr h3 b2.w, by omega, fun y hy => (b4 y (by omega)).trans (h5 y hy), e4, ?_, hwf.1, by rw [hwf.2]; exact Nat.le_refl _⟩
    omega
  · rw [e1]
    exact ⟨t2, _, e2, u', w, b1, hfw.tr h3 b2.w, h4, fun y hy => (b4 y (by omega)).trans (h5 y hy), rfl, h2⟩
theorem mkR_Z : vw (mkR (zs.map nZ)) = vw (nR zs) := by
  show vR ((zs.map nZ).map ivN) = vR zs
  rw [List.map_map]
  congr 2
  conv => rhs; rw [← List.map_id zs]
  rfl
theorem cG.row (hN : 170000 ≤ N) (H : cG t t' u u' w (xs ++ zs.map nZ)) (hz : zs.length ≤ 64) (hw : w + xs.length ≤ 60000) (hu : u' ≤ 166000) : ∃ t2 t3 v, cf_126 N X (Int32.ofNat 1) (Int32.ofNat (w + xs.length)) t' = some (t2, .inl (some (.long v))) ∧ cf_123 N X v t2 = some (t3, .inl none) ∧ cG t t3 u (u' + 1 + zs.length) w (xs ++ [nR zs]) := by
  obtain ⟨h1, h3, h4, h5, h6, h7⟩ := H
  have hl : (zs.map nZ).length = zs.length := List.length_map ..
  have h1' : cHp t' u' (w + xs.length + (zs.map nZ).length) := by rw [List.length_append, ← Nat.add_assoc] at h1; exact h1
  have hr : reps (cel t') u' (prt t') (w + xs.length) (zs.map nZ) := fun i hi => by
    have z := h7 (xs.length + i) (by rw [List.length_append]; omega)
    rw [List.getElem_append_right (by omega)] at z
    simp only [Nat.add_sub_cancel_left] at z
    rw [Nat.add_assoc]
    exact z
  have hm : mk 1 (zs.map nZ) = some (mkR (zs.map nZ)) := by
    show (if (zs.map nZ).length ≤ 64 then some (mkR (zs.map nZ)) else none) = _
    rw [hl, if_pos hz]
  rcases c_build (N := N) (X := X) (k := 1) hN (Or.inl ⟨rfl, fun x hx => by obtain ⟨z, -, rfl⟩ := List.mem_map.mp hx; rfl⟩) h1' hr (fun x hx => by obtain ⟨z, -, rfl⟩ := List.mem_map.mp hx; exact trivial) (fun x hx => by obtain ⟨z, -, rfl⟩ := List.mem_map.mp hx; exact Nat.zero_le _) (by omega) (by omega) hu with ⟨y, e1, t2, v, e2, ⟨b1, b2, b3, b4, b5⟩, e4⟩ | ⟨e1, -⟩
  · rw [hm] at e1
    cases e1
    rw [hl] at b1 e4
    have e4' : cN (cel t2) (u' + 1 + zs.length) v (nR zs) := by
      refine cN_iff.mpr ?_
      rw [← mkR_Z]
      exact cN_iff.mp e4
    have H2 : cG t t2 u (u' + 1 + zs.length) w xs := ⟨b1, hfw.tr h3 b2.w, by omega, fun y hy => (b4 y (by omega)).trans (h5 y hy), fun y hy => (b5 y (by omega)).trans (h6 y hy), fun i hi => by
      rw [b5 _ (by omega)]
      have z := h7 i (by rw [List.length_append]; omega)
      rw [List.getElem_append_left hi] at z
      exact cN.mono b4 (by omega) z⟩
    obtain ⟨t3, p1, p2⟩ := cG.put (N := N) (X := X) H2 (by omega) e4'
    exact ⟨t2, t3, v, e2, p1, p2⟩
  · rw [hm] at e1
    cases e1
theorem c_rf {k : Int32} : cf_254 N X k t = some (t, .inl (some (.long (rf k)))) := rfl
theorem cE.tr (hh : cHp t u w) {k : Nat} : cE t t u (rf (Int32.ofNat k)) (.inl k) := ⟨u, w, hh, hfw.rf, Nat.le_refl _, fun _ _ => rfl, rfl, by omega⟩
theorem cG.tr (H : cG t t' u u' w xs) (hu : u' ≤ u + 2000) {k : Nat} : cE t t' u (rf (Int32.ofNat k)) (.inl k) := ⟨u', _, H.1, H.2.1, H.2.2.1, H.2.2.2.1, rfl, hu⟩
end CGS
section RKA
variable {N : Nat} {s s' : mS} {f f' n i m : Nat} {x : Nod} {xs : List Nod}
theorem r_kindAt (H : rvl (s.2.2.1 47) f (s.2.2.1 49 i) (s.2.2.1 50 i) x) (hf : f ≤ 166300) (hi : i < 9000) : mf_292 N (Int32.ofNat i) s = some (s, some (.int (kdN x))) := by
  rcases H with ⟨h1, h2⟩ | ⟨h1, h2, a, h3, h4⟩
  · have e : kdN x = Int32.ofNat 0 := by
      show kdV (vw x) = _
      revert h2
      cases vw x with
      | inl z => intro _; rfl
      | inr w => intro h2; cases h2
    rw [e]
    unfold mf_292 mf_292_0 mf_292_9 mf_292_24
    simp (disch := omega) only [ev_S, ev_P, ↓reduceIte, Nat.reduceEqDiff, Nat.reduceLeDiff, Nat.reduceAdd, Nat.reduceMul, Nat.reduceSub, reduceCtorEq, l32_0, l32_1, l32_2, l32_3, l32_4, l32_5, l32_6, l32_7, l32_8, l32_9, l32_10, l32_11, l32_12, l32_13, l32_14, l32_15, l32_16, l32_17, l32_18, l32_19, l32_20, l32_21, l32_22, l32_23, l32_24, l32_25, l32_26, l32_27, l32_28, l32_29, l32_33, l32_40, l32_41, l32_44, l32_45, l32_59, l32_61, l32_91, l32_93, l32_123, l32_125, h1]
  · have k1 := (LayN_iff.mp h4).2.kd.1
    have hlt := LayN.lt h4
    unfold mf_292 mf_292_0 mf_292_13 mf_292_24
    simp (disch := omega) only [ev_S, ev_P, ↓reduceIte, Nat.reduceEqDiff, Nat.reduceLeDiff, Nat.reduceAdd, Nat.reduceMul, Nat.reduceSub, reduceCtorEq, l32_0, l32_1, l32_2, l32_3, l32_4, l32_5, l32_6, l32_7, l32_8, l32_9, l32_10, l32_11, l32_12, l32_13, l32_14, l32_15, l32_16, l32_17, l32_18, l32_19, l32_20, l32_21, l32_22, l32_23, l32_24, l32_25, l32_26, l32_27, l32_28, l32_29, l32_33, l32_40, l32_41, l32_44, l32_45, l32_59, l32_61, l32_91, l32_93, l32_123, l32_125, h1, h3, k1]
/-- an operation begins: its values xs lie on the stack from n on -/
def rA (s : mS) (n f m : Nat) (xs : List Nod) : Prop := rX s n f xs ∧ s.1 48 = Int32.ofNat f ∧ s.1 66 = Int32.ofNat 0 ∧ s.1 62 = Int32.ofNat m ∧ m ≤ 3000 ∧ (154240 ≤ f ∧ f + 1000 ≤ 166300) ∧ n + xs.length < 9000 ∧ n + 200 < 9000 ∧ (∀ x ∈ xs, wfN x) ∧ (∀ x ∈ xs, x.1 ≤ 4)
theorem rA.g (H : rA s n f m xs) : rG s s n f f xs := ⟨⟨H.1.1, H.2.1, Nat.le_refl _⟩, H.1.2, vfr.rf, rfl, rfl, rfl⟩
theorem rA.trb (H : rA s n f m xs) (s1 : mS) (h1 : vfr n f s s1) (h48 : s1.1 48 = s.1 48) (h62 : s1.1 62 = s.1 62) (h66 : s1.1 66 = s.1 66) (k : Nat) : mf_301 N (Int32.ofNat k) (s1.1 70) s1 = some (trb s1 (Int32.ofNat k) (s1.1 70), none) ∧ rE s (trb s1 (Int32.ofNat k) (s1.1 70)) n f m (.inl k) := by
  obtain ⟨H1, H2, H3, H4, H5⟩ := H
  exact ⟨r_trb (by rw [h66, H3]), f, Nat.le_refl _, h48.trans H2, h1.tr trb_v (Nat.le_refl _), by omega, h62.trans H4, rfl, h1.i70⟩
theorem rG.trb (H : rA s n f m xs) {ys : List Nod} (G : rG s s' n f f' ys) (hf : f' ≤ f + 300) (k : Nat) : mf_301 N (Int32.ofNat k) (s'.1 70) s' = some (trb s' (Int32.ofNat k) (s'.1 70), none) ∧ rE s (trb s' (Int32.ofNat k) (s'.1 70)) n f m (.inl k) := by
  obtain ⟨H1, H2, H3, H4, H5⟩ := H
  obtain ⟨⟨g1, g2, g3⟩, g4, g5, g6, g7, g8⟩ := G
  exact ⟨r_trb (by rw [g7, H3]), f', g3, g2, g5.tr trb_v (Nat.le_refl _), hf, g6.trans H4, rfl, g5.i70⟩
theorem rA.builds {k : Nat} {ys : List Nod} (hN : 170000 ≤ N) (H : rA s n f m xs) (G : rG s s' n f f' ys) (hok : mkOk k ys) (hw : ∀ x ∈ ys, wfN x) (hd : ∀ x ∈ ys, x.1 ≤ 4) (hg : f' ≤ f + grw k ys) (h300 : f' ≤ f + 300) (hl : ys.length ≤ 3000) (hn : n + ys.length < 9000) : ∃ s'', mf_305 N (Int32.ofNat k) (Int32.ofNat n) s' = some (s'', none) ∧ rE s s'' n f m (ansM k ys) := by
  obtain ⟨H1, H2, H3, H4, H5, H6, H7, H8, H9, H10⟩ := H
  exact r_builds hN G hok H3 H4 H5 hw hd hg h300 (by have := G.1.2.2; omega) hl hn
end RKA
end
-- ### 95p.pure.lean.txt
section
/-! ===== PURE: run (17): literals ===== -/
def knV : Vw → Nat
  | .inl _ => 0
  | .inr (.inl _) => 1
  | .inr (.inr (.inl _)) => 2
  | .inr (.inr (.inr _)) => 3
abbrev kn (x : Nod) : Nat := knV (vw x)
theorem kd_kn {x : Nod} : kdN x = Int32.ofNat (kn x) := by
  show kdV (vw x) = Int32.ofNat (knV (vw x))
  generalize vw x = V
  obtain z | r | q | l := V <;> rfl
theorem kn_le {x : Nod} : kn x ≤ 3 := by
  show knV (vw x) ≤ 3
  generalize vw x = V
  obtain z | r | q | l := V
  · exact (by omega : 0 ≤ 3)
  · exact (by omega : 1 ≤ 3)
  · exact (by omega : 2 ≤ 3)
  · exact (by omega : 3 ≤ 3)
theorem kd_iff {x : Nod} {k : Nat} (hk : k ≤ 3) : kdN x = Int32.ofNat k ↔ kn x = k := by
  rw [kd_kn]
  exact ⟨fun h => ofNat_inj (Nat.lt_of_le_of_lt kn_le (by omega)) (by omega) h, fun h => by rw [h]⟩
def aK (k : Nat) (xs : List Nod) : Bool := xs.all (fun x => kn x == k)
abbrev bI (b : Bool) : Int32 := if b = true then Int32.ofNat 1 else Int32.ofNat 0
theorem aK_s {k : Nat} {xs : List Nod} {i : Nat} (hi : i < xs.length) : aK k (xs.take (i + 1)) = (aK k (xs.take i) && (kn xs[i] == k)) := by
  unfold aK
  rw [List.take_succ_eq_append_getElem hi, List.all_append, List.all_cons, List.all_nil, Bool.and_true]
theorem aK_i {k : Nat} {xs : List Nod} : aK k xs = true ↔ ∀ x ∈ xs, kn x = k := by
  unfold aK
  rw [List.all_eq_true]
  exact ⟨fun h x hx => beq_iff_eq.mp (h x hx), fun h x hx => beq_iff_eq.mpr (h x hx)⟩
def ansL (xs : List Nod) : Ans := if aK 0 xs = true then ansM 1 xs else if aK 1 xs = true then ansM 2 xs else .inl 3
section LIT
variable {N k : Nat} {X : Nat → Option zz_C} {t t' : cS} {u u' w i : Nat} {v : Int64} {x : Nod} {xs : List Nod} {s s' : mS} {n f f' m : Nat}
theorem rvl.kz {h : Nat → Int32} {k v : Int32} (H : rvl h f k v x) : (k = Int32.ofNat 0 ∧ kn x = 0) ∨ (k = Int32.ofNat 1 ∧ ¬ kn x = 0 ∧ ∃ a : Nat, v = Int32.ofNat a ∧ LayN h (Rf f) a x) := by
  rcases H with ⟨h1, h2⟩ | ⟨h1, h2, h3⟩
  · refine Or.inl ⟨h1, ?_⟩
    show knV (vw x) = 0
    revert h2
    cases vw x with
    | inl z => intro _; rfl
    | inr w => intro h2; cases h2
  · refine Or.inr ⟨h1, ?_, h3⟩
    show ¬ knV (vw x) = 0
    revert h2
    generalize vw x = V
    obtain z | r | q | l := V
    · intro h2; cases h2
    · intro _; exact (by omega : ¬ 1 = 0)
    · intro _; exact (by omega : ¬ 2 = 0)
    · intro _; exact (by omega : ¬ 3 = 0)
theorem r_lit (hN : 170000 ≤ N) (H : rA s n f m xs) (hl : xs.length ≤ 3000) : ∃ s', mf_324 N (Int32.ofNat n) s = some (s', none) ∧ rE s s' n f m (ansL xs) := by
  have H' := H
  obtain ⟨⟨h51, hv⟩, H2, H3, H4, H5, H6, H7, H8, H9, H10⟩ := H'
  have key : mf_324 N (Int32.ofNat n) s = mf_324_62 N (Int32.ofNat n) (bI (aK 0 xs)) (bI (aK 1 xs)) s := by
    have L := lp (fun f i (a : Int32 × Int32) => mf_324_L8 N f 0 (Int32.ofNat n) a.1 a.2 (Int32.ofNat (n + i)) s) xs.length (fun i a => a.1 = bI (aK 0 (xs.take i)) ∧ a.2 = bI (aK 1 (xs.take i))) (fun r => r = mf_324_62 N (Int32.ofNat n) (bI (aK 0 xs)) (bI (aK 1 xs)) s) (by
      intro f1 i a hi hP _
      left
      obtain ⟨a1, a2⟩ := a
      obtain ⟨e1, e2⟩ := hP
      have e1 : a1 = _ := e1
      have e2 : a2 = _ := e2
      subst e1
      subst e2
      have hx := hv i hi
      have hka := r_kindAt (N := N) hx (by omega) (by omega)
      rw [kd_kn] at hka
      have n1 : ¬ n + xs.length ≤ n + i := by omega
      have kl := kn_le (x := xs[i])
      refine ⟨(_, _), ⟨rfl, rfl⟩, ?_⟩
      show mf_324_7 N (mf_324_L8 N f1) (Int32.ofNat n) (bI (aK 0 (xs.take i))) (bI (aK 1 (xs.take i))) (Int32.ofNat (n + i)) s = mf_324_L8 N f1 0 (Int32.ofNat n) (bI (aK 0 (xs.take (i + 1)))) (bI (aK 1 (xs.take (i + 1)))) (Int32.ofNat (n + (i + 1))) s
      rw [aK_s hi, aK_s hi]
      have hkz := rvl.kz hx
      generalize kn xs[i] = kk at *
      generalize aK 0 (xs.take i) = A
      generalize aK 1 (xs.take i) = B
      have e0 : (kk == 0) = decide (kk = 0) := rfl
      have e1 : (kk == 1) = decide (kk = 1) := rfl
      rw [e0, e1]
      rcases hkz with ⟨k1, k2⟩ | ⟨k1, k2, -⟩
      · rw [decide_eq_true k2, decide_eq_false (show ¬ kk = 1 by omega)]
        cases A <;> cases B <;> simp only [bI, Bool.true_and, Bool.false_and, Bool.and_false, Bool.and_true, if_true, reduceCtorEq, if_false] <;> (repeat ((first | unfold mf_324 | unfold mf_324_0 | unfold mf_324_7 | unfold mf_324_16 | unfold mf_324_20 | unfold mf_324_30 | unfold mf_324_34 | unfold mf_324_35 | unfold mf_324_40 | unfold mf_324_46 | unfold mf_324_50 | unfold mf_324_54 | unfold mf_324_55 | unfold mf_324_62 | unfold mf_324_66 | unfold mf_324_72 | unfold mf_324_75 | unfold mf_324_79 | unfold mf_324_85 | unfold mf_324_88 | unfold mf_324_97); try simp (disch := omega) only [ev_S, ev_P, ↓reduceIte, Nat.reduceEqDiff, Nat.reduceLeDiff, Nat.reduceAdd, Nat.reduceMul, Nat.reduceSub, reduceCtorEq, l32_0, l32_1, l32_2, l32_3, l32_4, l32_49, l32_51, l32_9000, h51, n1, k1, hka, k2])) <;> (try rfl)
      · rw [decide_eq_false k2]
        by_cases k3 : kk = 1
        · rw [decide_eq_true k3]
          cases A <;> cases B <;> simp only [bI, Bool.true_and, Bool.false_and, Bool.and_false, Bool.and_true, if_true, reduceCtorEq, if_false] <;> (repeat ((first | unfold mf_324 | unfold mf_324_0 | unfold mf_324_7 | unfold mf_324_16 | unfold mf_324_20 | unfold mf_324_30 | unfold mf_324_34 | unfold mf_324_35 | unfold mf_324_40 | unfold mf_324_46 | unfold mf_324_50 | unfold mf_324_54 | unfold mf_324_55 | unfold mf_324_62 | unfold mf_324_66 | unfold mf_324_72 | unfold mf_324_75 | unfold mf_324_79 | unfold mf_324_85 | unfold mf_324_88 | unfold mf_324_97); try simp (disch := omega) only [ev_S, ev_P, ↓reduceIte, Nat.reduceEqDiff, Nat.reduceLeDiff, Nat.reduceAdd, Nat.reduceMul, Nat.reduceSub, reduceCtorEq, l32_0, l32_1, l32_2, l32_3, l32_4, l32_49, l32_51, l32_9000, h51, n1, k1, hka, k3])) <;> (try rfl)
        · rw [decide_eq_false k3]
          cases A <;> cases B <;> simp only [bI, Bool.true_and, Bool.false_and, Bool.and_false, Bool.and_true, if_true, reduceCtorEq, if_false] <;> (repeat ((first | unfold mf_324 | unfold mf_324_0 | unfold mf_324_7 | unfold mf_324_16 | unfold mf_324_20 | unfold mf_324_30 | unfold mf_324_34 | unfold mf_324_35 | unfold mf_324_40 | unfold mf_324_46 | unfold mf_324_50 | unfold mf_324_54 | unfold mf_324_55 | unfold mf_324_62 | unfold mf_324_66 | unfold mf_324_72 | unfold mf_324_75 | unfold mf_324_79 | unfold mf_324_85 | unfold mf_324_88 | unfold mf_324_97); try simp (disch := omega) only [ev_S, ev_P, ↓reduceIte, Nat.reduceEqDiff, Nat.reduceLeDiff, Nat.reduceAdd, Nat.reduceMul, Nat.reduceSub, reduceCtorEq, l32_0, l32_1, l32_2, l32_3, l32_4, l32_49, l32_51, l32_9000, h51, n1, k1, hka, k3])) <;> (try rfl)) (by
      intro f1 a hP
      obtain ⟨a1, a2⟩ := a
      obtain ⟨e1, e2⟩ := hP
      rw [List.take_length] at e1 e2
      have e1 : a1 = _ := e1
      have e2 : a2 = _ := e2
      subst e1
      subst e2
      show mf_324_7 N (mf_324_L8 N f1) (Int32.ofNat n) _ _ (Int32.ofNat (n + xs.length)) s = _
      unfold mf_324_7
      simp (disch := omega) only [ev_S, ev_P, ↓reduceIte, Nat.reduceEqDiff, Nat.reduceLeDiff, Nat.reduceAdd, Nat.reduceMul, Nat.reduceSub, reduceCtorEq, l32_0, l32_1, l32_2, l32_3, l32_4, l32_5, l32_6, l32_7, l32_8, l32_9, l32_10, l32_11, l32_12, l32_13, l32_14, l32_15, l32_16, l32_17, l32_18, l32_19, l32_20, l32_21, l32_22, l32_23, l32_24, l32_25, l32_26, l32_27, l32_28, l32_29, l32_33, l32_40, l32_41, l32_44, l32_45, l32_59, l32_61, l32_91, l32_93, l32_123, l32_125, h51]) xs.length 0 N (1, 1) (Nat.zero_add _) (by omega) ⟨rfl, rfl⟩
    exact L
  rw [key]
  unfold ansL bI
  by_cases A : aK 0 xs = true
  · rw [if_pos A, if_pos A]
    obtain ⟨s1, b1, b2⟩ := rA.builds (N := N) (k := 1) hN H H.g (Or.inl ⟨rfl, fun x hx => (kd_iff (k := 0) (by omega)).mpr (aK_i.mp A x hx)⟩) H9 H10 (by omega) (by omega) hl H7
    refine ⟨s1, ?_, b2⟩
    repeat ((first | unfold mf_324 | unfold mf_324_0 | unfold mf_324_7 | unfold mf_324_16 | unfold mf_324_20 | unfold mf_324_30 | unfold mf_324_34 | unfold mf_324_35 | unfold mf_324_40 | unfold mf_324_46 | unfold mf_324_50 | unfold mf_324_54 | unfold mf_324_55 | unfold mf_324_62 | unfold mf_324_66 | unfold mf_324_72 | unfold mf_324_75 | unfold mf_324_79 | unfold mf_324_85 | unfold mf_324_88 | unfold mf_324_97); try simp (disch := omega) only [ev_S, ev_P, ↓reduceIte, Nat.reduceEqDiff, Nat.reduceLeDiff, Nat.reduceAdd, Nat.reduceMul, Nat.reduceSub, reduceCtorEq, l32_0, l32_1, l32_2, l32_3, l32_4, l32_49, l32_51, l32_9000, b1])
  · rw [if_neg A, if_neg A]
    by_cases B : aK 1 xs = true
    · rw [if_pos B, if_pos B]
      obtain ⟨s1, b1, b2⟩ := rA.builds (N := N) (k := 2) hN H H.g (Or.inr (Or.inl ⟨rfl, fun x hx => (kd_iff (k := 1) (by omega)).mpr (aK_i.mp B x hx)⟩)) H9 H10 (by omega) (by omega) hl H7
      refine ⟨s1, ?_, b2⟩
      repeat ((first | unfold mf_324 | unfold mf_324_0 | unfold mf_324_7 | unfold mf_324_16 | unfold mf_324_20 | unfold mf_324_30 | unfold mf_324_34 | unfold mf_324_35 | unfold mf_324_40 | unfold mf_324_46 | unfold mf_324_50 | unfold mf_324_54 | unfold mf_324_55 | unfold mf_324_62 | unfold mf_324_66 | unfold mf_324_72 | unfold mf_324_75 | unfold mf_324_79 | unfold mf_324_85 | unfold mf_324_88 | unfold mf_324_97); try simp (disch := omega) only [ev_S, ev_P, ↓reduceIte, Nat.reduceEqDiff, Nat.reduceLeDiff, Nat.reduceAdd, Nat.reduceMul, Nat.reduceSub, reduceCtorEq, l32_0, l32_1, l32_2, l32_3, l32_4, l32_49, l32_51, l32_9000, b1])
    · rw [if_neg B, if_neg B]
      obtain ⟨b1, b2⟩ := rG.trb (N := N) H H.g (by omega) 3
      refine ⟨_, ?_, b2⟩
      repeat ((first | unfold mf_324 | unfold mf_324_0 | unfold mf_324_7 | unfold mf_324_16 | unfold mf_324_20 | unfold mf_324_30 | unfold mf_324_34 | unfold mf_324_35 | unfold mf_324_40 | unfold mf_324_46 | unfold mf_324_50 | unfold mf_324_54 | unfold mf_324_55 | unfold mf_324_62 | unfold mf_324_66 | unfold mf_324_72 | unfold mf_324_75 | unfold mf_324_79 | unfold mf_324_85 | unfold mf_324_88 | unfold mf_324_97); try simp (disch := omega) only [ev_S, ev_P, ↓reduceIte, Nat.reduceEqDiff, Nat.reduceLeDiff, Nat.reduceAdd, Nat.reduceMul, Nat.reduceSub, reduceCtorEq, l32_0, l32_1, l32_2, l32_3, l32_4, l32_49, l32_51, l32_9000, b1])
end LIT
end
-- ### 95q.pure.lean.txt
section
/-! ===== PURE: run (18): literals, the class ===== -/
section LIC
variable {N k : Nat} {X : Nat → Option zz_C} {t t' : cS} {u u' w i : Nat} {v : Int64} {x : Nod} {xs : List Nod}
theorem aK_f {i : Nat} (h : aK k (xs.take i) = false) : aK k xs = false := by
  rw [← List.take_append_drop i xs]
  unfold aK at *
  rw [List.all_append, h, Bool.false_and]
theorem c_kn (h : cN (cel t) u v x) : cf_255 N X v t = some (t, .inl (some (.int (Int32.ofNat (kn x))))) := by
  rw [c_kind h]
  have e : kdV (vw x) = Int32.ofNat (kn x) := kd_kn
  rw [e]
theorem c_lit (hN : 170000 ≤ N) (H : cG t t' u u 0 xs) (hw : ∀ x ∈ xs, wfN x) (hd : ∀ x ∈ xs, x.1 ≤ 4) (hl : xs.length ≤ 3000) (hu : u ≤ 162000) : ∃ t'' v, cf_127 N X (Int32.ofNat 1) (Int32.ofNat 0) t' = some (t'', .inl (some (.long v))) ∧ cE t t'' u v (ansL xs) := by
  have H' := H
  obtain ⟨⟨h1, h2, h3, h4, h5, h6, h7, h8, h9⟩, -, -, -, -, hr⟩ := H'
  rw [Nat.zero_add] at h2 h4
  have R87 : ∀ kk : Nat, kk ≤ 1 → (aK kk xs = true → ansL xs = ansM (kk + 1) xs) → (aK kk xs = false → ansL xs = .inl 3) → ∃ t'' v, cf_127_87 N X (Int32.ofNat 0) (Int32.ofNat (kk + 1)) (bI (aK kk xs)) t' = some (t'', .inl (some (.long v))) ∧ cE t t'' u v (ansL xs) := by
    intro kk hkk a1 a2
    cases hA : aK kk xs with
    | false =>
      rw [a2 hA]
      refine ⟨t', _, ?_, cG.tr H (by omega)⟩
      have e := c_rf (N := N) (X := X) (t := t') (k := Int32.ofNat 3)
      simp only [bI]
      repeat ((first | unfold cf_127 | unfold cf_127_0 | unfold cf_127_8 | unfold cf_127_17 | unfold cf_127_22 | unfold cf_127_23 | unfold cf_127_29 | unfold cf_127_34 | unfold cf_127_38 | unfold cf_127_39 | unfold cf_127_44 | unfold cf_127_53 | unfold cf_127_58 | unfold cf_127_68 | unfold cf_127_74 | unfold cf_127_78 | unfold cf_127_79 | unfold cf_127_87 | unfold cf_127_92 | unfold cf_127_98 | unfold cf_127_101 | unfold cf_127_105); try simp (disch := omega) only [ev_S, ev_C, ↓reduceIte, Nat.reduceEqDiff, Nat.reduceLeDiff, Nat.reduceAdd, Nat.reduceMul, Nat.reduceSub, reduceCtorEq, l32_0, l32_1, l32_2, l32_3, l32_4, l32_42, l32_44, e])
    | true =>
      rw [a1 hA]
      have hok : mkOk (kk + 1) xs := by
        rcases (show kk = 0 ∨ kk = 1 by omega) with rfl | rfl
        · exact Or.inl ⟨rfl, fun x hx => (kd_iff (k := 0) (by omega)).mpr (aK_i.mp hA x hx)⟩
        · exact Or.inr (Or.inl ⟨rfl, fun x hx => (kd_iff (k := 1) (by omega)).mpr (aK_i.mp hA x hx)⟩)
      obtain ⟨t2, v, b1, b2⟩ := cG.build (N := N) (X := X) hN H hok hw hd hl (by omega) (by omega) (by omega) (by omega)
      refine ⟨t2, v, ?_, b2⟩
      simp only [bI]
      repeat ((first | unfold cf_127 | unfold cf_127_0 | unfold cf_127_8 | unfold cf_127_17 | unfold cf_127_22 | unfold cf_127_23 | unfold cf_127_29 | unfold cf_127_34 | unfold cf_127_38 | unfold cf_127_39 | unfold cf_127_44 | unfold cf_127_53 | unfold cf_127_58 | unfold cf_127_68 | unfold cf_127_74 | unfold cf_127_78 | unfold cf_127_79 | unfold cf_127_87 | unfold cf_127_92 | unfold cf_127_98 | unfold cf_127_101 | unfold cf_127_105); try simp (disch := omega) only [ev_S, ev_C, ↓reduceIte, Nat.reduceEqDiff, Nat.reduceLeDiff, Nat.reduceAdd, Nat.reduceMul, Nat.reduceSub, reduceCtorEq, l32_0, l32_1, l32_2, l32_3, l32_4, l32_42, l32_44, b1])
  have LP : ∀ kk : Nat, kk ≤ 1 → cf_127_L5 N X N 0 (Int32.ofNat 0) (Int32.ofNat (kk + 1)) (Int32.ofNat 1) (Int32.ofNat 0) t' = cf_127_87 N X (Int32.ofNat 0) (Int32.ofNat (kk + 1)) (bI (aK kk xs)) t' := by
    intro kk hkk
    exact lp (fun f i (a : Int32) => cf_127_L5 N X f 0 (Int32.ofNat 0) (Int32.ofNat (kk + 1)) a (Int32.ofNat i) t') xs.length (fun i a => a = bI (aK kk (xs.take i))) (fun r => r = cf_127_87 N X (Int32.ofNat 0) (Int32.ofNat (kk + 1)) (bI (aK kk xs)) t') (by
      intro f1 i a hi hP _
      subst hP
      have hc := c_kn (N := N) (X := X) (hr i hi)
      rw [Nat.zero_add] at hc
      have n1 : ¬ xs.length ≤ i := by omega
      cases hA : aK kk (xs.take i) with
      | false =>
        right
        rw [aK_f hA]
        show cf_127_44 N X (cf_127_L5 N X f1) (Int32.ofNat 0) (Int32.ofNat (kk + 1)) (bI false) (Int32.ofNat i) t' = _
        simp only [bI]
        unfold cf_127_44 cf_127_53
        simp (disch := omega) only [ev_S, ev_C, ↓reduceIte, Nat.reduceEqDiff, Nat.reduceLeDiff, Nat.reduceAdd, Nat.reduceMul, Nat.reduceSub, reduceCtorEq, l32_0, l32_1, l32_2, l32_3, l32_4, l32_5, l32_6, l32_7, l32_8, l32_9, l32_10, l32_11, l32_12, l32_13, l32_14, l32_15, l32_16, l32_17, l32_18, l32_19, l32_20, l32_21, l32_22, l32_23, l32_24, l32_25, l32_26, l32_27, l32_28, l32_29, l32_33, l32_40, l32_41, l32_44, l32_45, l32_59, l32_61, l32_91, l32_93, l32_123, l32_125, h2, n1]
      | true =>
        left
        refine ⟨_, rfl, ?_⟩
        rw [aK_s hi, hA, Bool.true_and]
        show cf_127_44 N X (cf_127_L5 N X f1) (Int32.ofNat 0) (Int32.ofNat (kk + 1)) (bI true) (Int32.ofNat i) t' = cf_127_L5 N X f1 0 (Int32.ofNat 0) (Int32.ofNat (kk + 1)) (bI (kn xs[i] == kk)) (Int32.ofNat (i + 1)) t'
        have kl := kn_le (x := xs[i])
        generalize kn xs[i] = q at *
        have e0 : (q == kk) = decide (q = kk) := rfl
        rw [e0]
        by_cases z : q = kk
        · rw [decide_eq_true z]
          have z' : q + 1 = kk + 1 := by omega
          simp only [bI]
          repeat ((first | unfold cf_127 | unfold cf_127_0 | unfold cf_127_8 | unfold cf_127_17 | unfold cf_127_22 | unfold cf_127_23 | unfold cf_127_29 | unfold cf_127_34 | unfold cf_127_38 | unfold cf_127_39 | unfold cf_127_44 | unfold cf_127_53 | unfold cf_127_58 | unfold cf_127_68 | unfold cf_127_74 | unfold cf_127_78 | unfold cf_127_79 | unfold cf_127_87 | unfold cf_127_92 | unfold cf_127_98 | unfold cf_127_101 | unfold cf_127_105); try simp (disch := omega) only [ev_S, ev_C, ↓reduceIte, Nat.reduceEqDiff, Nat.reduceLeDiff, Nat.reduceAdd, Nat.reduceMul, Nat.reduceSub, reduceCtorEq, l32_0, l32_1, l32_2, l32_3, l32_4, l32_42, l32_44, h2, n1, hc, z'])
        · rw [decide_eq_false z]
          have z' : ¬ q + 1 = kk + 1 := by omega
          simp only [bI]
          repeat ((first | unfold cf_127 | unfold cf_127_0 | unfold cf_127_8 | unfold cf_127_17 | unfold cf_127_22 | unfold cf_127_23 | unfold cf_127_29 | unfold cf_127_34 | unfold cf_127_38 | unfold cf_127_39 | unfold cf_127_44 | unfold cf_127_53 | unfold cf_127_58 | unfold cf_127_68 | unfold cf_127_74 | unfold cf_127_78 | unfold cf_127_79 | unfold cf_127_87 | unfold cf_127_92 | unfold cf_127_98 | unfold cf_127_101 | unfold cf_127_105); try simp (disch := omega) only [ev_S, ev_C, ↓reduceIte, Nat.reduceEqDiff, Nat.reduceLeDiff, Nat.reduceAdd, Nat.reduceMul, Nat.reduceSub, reduceCtorEq, l32_0, l32_1, l32_2, l32_3, l32_4, l32_42, l32_44, h2, n1, hc, z'])) (by
      intro f1 a hP
      rw [List.take_length] at hP
      subst hP
      show cf_127_44 N X (cf_127_L5 N X f1) (Int32.ofNat 0) (Int32.ofNat (kk + 1)) _ (Int32.ofNat xs.length) t' = _
      unfold cf_127_44
      simp (disch := omega) only [ev_S, ev_C, ↓reduceIte, Nat.reduceEqDiff, Nat.reduceLeDiff, Nat.reduceAdd, Nat.reduceMul, Nat.reduceSub, reduceCtorEq, l32_0, l32_1, l32_2, l32_3, l32_4, l32_5, l32_6, l32_7, l32_8, l32_9, l32_10, l32_11, l32_12, l32_13, l32_14, l32_15, l32_16, l32_17, l32_18, l32_19, l32_20, l32_21, l32_22, l32_23, l32_24, l32_25, l32_26, l32_27, l32_28, l32_29, l32_33, l32_40, l32_41, l32_44, l32_45, l32_59, l32_61, l32_91, l32_93, l32_123, l32_125, h2]) xs.length 0 N (Int32.ofNat 1) (Nat.zero_add _) (by omega) rfl
  cases xs with
  | nil =>
    obtain ⟨t2, v, e1, e2⟩ := R87 0 (by omega) (fun _ => rfl) (fun h => by cases h)
    refine ⟨t2, v, ?_, e2⟩
    have l := LP 0 (by omega)
    have h2 : kI t' 42 3 = Int32.ofNat 0 := h2
    have l : cf_127_L5 N X N 0 (Int32.ofNat 0) (Int32.ofNat 1) (Int32.ofNat 1) (Int32.ofNat 0) t' = _ := l.trans e1
    unfold cf_127 cf_127_0 cf_127_22 cf_127_23 cf_127_34 cf_127_39
    simp (disch := omega) only [ev_S, ev_C, ↓reduceIte, Nat.reduceEqDiff, Nat.reduceLeDiff, Nat.reduceAdd, Nat.reduceMul, Nat.reduceSub, reduceCtorEq, l32_0, l32_1, l32_2, l32_3, l32_4, l32_5, l32_6, l32_7, l32_8, l32_9, l32_10, l32_11, l32_12, l32_13, l32_14, l32_15, l32_16, l32_17, l32_18, l32_19, l32_20, l32_21, l32_22, l32_23, l32_24, l32_25, l32_26, l32_27, l32_28, l32_29, l32_33, l32_40, l32_41, l32_44, l32_45, l32_59, l32_61, l32_91, l32_93, l32_123, l32_125, h2, l]
  | cons x xs =>
    have hlc : (x :: xs).length = xs.length + 1 := rfl
    have hc := c_kn (N := N) (X := X) (hr 0 (by rw [hlc]; omega))
    have hc : cf_255 N X ((kB t' 44).2 0) t' = some (t', .inl (some (.int (Int32.ofNat (kn x))))) := hc
    have n1 : ¬ (x :: xs).length ≤ 0 := by rw [hlc]; omega
    have kl := kn_le (x := x)
    have aq : ∀ q, ¬ kn x = q → aK q (x :: xs) = false := fun q hq => by
      unfold aK
      rw [List.all_cons, show (kn x == q) = decide (kn x = q) from rfl, decide_eq_false hq, Bool.false_and]
    by_cases k0 : kn x = 0
    · obtain ⟨t2, v, e1, e2⟩ := R87 0 (by omega) (fun h => if_pos h) (fun h => by
        unfold ansL
        rw [h, aq 1 (by omega)]
        rfl)
      refine ⟨t2, v, ?_, e2⟩
      have l : cf_127_L5 N X N 0 (Int32.ofNat 0) (Int32.ofNat 1) (Int32.ofNat 1) (Int32.ofNat 0) t' = _ := (LP 0 (by omega)).trans e1
      rw [k0] at hc
      unfold cf_127 cf_127_0 cf_127_8 cf_127_17 cf_127_23 cf_127_34 cf_127_39
      simp (disch := omega) only [ev_S, ev_C, ↓reduceIte, Nat.reduceEqDiff, Nat.reduceLeDiff, Nat.reduceAdd, Nat.reduceMul, Nat.reduceSub, reduceCtorEq, l32_0, l32_1, l32_2, l32_3, l32_4, l32_5, l32_6, l32_7, l32_8, l32_9, l32_10, l32_11, l32_12, l32_13, l32_14, l32_15, l32_16, l32_17, l32_18, l32_19, l32_20, l32_21, l32_22, l32_23, l32_24, l32_25, l32_26, l32_27, l32_28, l32_29, l32_33, l32_40, l32_41, l32_44, l32_45, l32_59, l32_61, l32_91, l32_93, l32_123, l32_125, h2, n1, hc, l]
    · by_cases k1 : kn x = 1
      · obtain ⟨t2, v, e1, e2⟩ := R87 1 (by omega) (fun h => by
          unfold ansL
          rw [h, aq 0 (by omega)]
          rfl) (fun h => by
          unfold ansL
          rw [h, aq 0 (by omega)]
          rfl)
        refine ⟨t2, v, ?_, e2⟩
        have l : cf_127_L5 N X N 0 (Int32.ofNat 0) (Int32.ofNat 2) (Int32.ofNat 1) (Int32.ofNat 0) t' = _ := (LP 1 (by omega)).trans e1
        rw [k1] at hc
        unfold cf_127 cf_127_0 cf_127_8 cf_127_17 cf_127_23 cf_127_29 cf_127_34 cf_127_39
        simp (disch := omega) only [ev_S, ev_C, ↓reduceIte, Nat.reduceEqDiff, Nat.reduceLeDiff, Nat.reduceAdd, Nat.reduceMul, Nat.reduceSub, reduceCtorEq, l32_0, l32_1, l32_2, l32_3, l32_4, l32_5, l32_6, l32_7, l32_8, l32_9, l32_10, l32_11, l32_12, l32_13, l32_14, l32_15, l32_16, l32_17, l32_18, l32_19, l32_20, l32_21, l32_22, l32_23, l32_24, l32_25, l32_26, l32_27, l32_28, l32_29, l32_33, l32_40, l32_41, l32_44, l32_45, l32_59, l32_61, l32_91, l32_93, l32_123, l32_125, h2, n1, hc, l]
      · have ea : ansL (x :: xs) = .inl 3 := by
          unfold ansL
          rw [aq 0 (by omega), aq 1 (by omega)]
          rfl
        rw [ea]
        refine ⟨t', _, ?_, cG.tr H (by omega)⟩
        obtain ⟨N1, hN1⟩ : ∃ N1, N = N1 + 1 := ⟨N - 1, by omega⟩
        have e := c_rf (N := N) (X := X) (t := t') (k := Int32.ofNat 3)
        have l : ∀ y, cf_127_L5 N X N 0 (Int32.ofNat 0) y (Int32.ofNat 0) (Int32.ofNat 0) t' = some (t', .inl (some (.long (rf (Int32.ofNat 3))))) := fun y => by
          have : ∀ q, cf_127_L5 N X (q + 1) 0 (Int32.ofNat 0) y (Int32.ofNat 0) (Int32.ofNat 0) t' = some (t', .inl (some (.long (rf (Int32.ofNat 3))))) := fun q => by
            show cf_127_44 N X (cf_127_L5 N X q) (Int32.ofNat 0) y (Int32.ofNat 0) (Int32.ofNat 0) t' = _
            unfold cf_127_44 cf_127_53 cf_127_87 cf_127_101 cf_127_105
            simp (disch := omega) only [ev_S, ev_C, ↓reduceIte, Nat.reduceEqDiff, Nat.reduceLeDiff, Nat.reduceAdd, Nat.reduceMul, Nat.reduceSub, reduceCtorEq, l32_0, l32_1, l32_2, l32_3, l32_4, l32_5, l32_6, l32_7, l32_8, l32_9, l32_10, l32_11, l32_12, l32_13, l32_14, l32_15, l32_16, l32_17, l32_18, l32_19, l32_20, l32_21, l32_22, l32_23, l32_24, l32_25, l32_26, l32_27, l32_28, l32_29, l32_33, l32_40, l32_41, l32_44, l32_45, l32_59, l32_61, l32_91, l32_93, l32_123, l32_125, h2, n1, e]
          rw [hN1]
          rw [hN1] at this
          exact this N1
        have q2 : ¬ kn x + 1 = 1 := by omega
        have q3 : ¬ kn x + 1 = 2 := by omega
        generalize kn x = kk at *
        unfold cf_127 cf_127_0 cf_127_8 cf_127_17 cf_127_23 cf_127_29 cf_127_38 cf_127_39
        simp (disch := omega) only [ev_S, ev_C, ↓reduceIte, Nat.reduceEqDiff, Nat.reduceLeDiff, Nat.reduceAdd, Nat.reduceMul, Nat.reduceSub, reduceCtorEq, l32_0, l32_1, l32_2, l32_3, l32_4, l32_5, l32_6, l32_7, l32_8, l32_9, l32_10, l32_11, l32_12, l32_13, l32_14, l32_15, l32_16, l32_17, l32_18, l32_19, l32_20, l32_21, l32_22, l32_23, l32_24, l32_25, l32_26, l32_27, l32_28, l32_29, l32_33, l32_40, l32_41, l32_44, l32_45, l32_59, l32_61, l32_91, l32_93, l32_123, l32_125, h2, n1, hc, q2, q3, l]
end LIC
end
