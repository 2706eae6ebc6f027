/-! ===== PURE: same (the reference's): two PACKS ===== -/
theorem serV_hd (v : Vw) : ∃ l, serV v = kdV v :: l := by
  obtain y | r | q | w := v <;> exact ⟨_, rfl⟩
theorem serV_kd {v v' : Vw} (h : ¬ kdV v = kdV v') : ¬ serV v = serV v' := fun q => by
  obtain ⟨l, e⟩ := serV_hd v
  obtain ⟨l', e'⟩ := serV_hd v'
  rw [e, e'] at q
  exact h (List.cons.inj q).1
theorem intV_s {v : Vw} {z : Int32} (h : intV v = some z) : v = .inl z := by
  obtain y | r | q | w := v
  · cases h
    rfl
  · cases h
  · cases h
  · cases h
theorem intV_n {v : Vw} (h : intV v = none) : ¬ kdV v = 0 := by
  obtain y | r | q | w := v
  · cases h
  · exact (show ¬ (1 : Int32) = 0 by decide)
  · exact (show ¬ (2 : Int32) = 0 by decide)
  · exact (show ¬ (3 : Int32) = 0 by decide)
theorem kdV_3 {v : Vw} (h : kdV v = 3) : ∃ (n : Nat) (l : List (Th n)), v = vP n l := by
  obtain y | r | q | w := v
  · exact absurd h (show ¬ (0 : Int32) = 3 by decide)
  · exact absurd h (show ¬ (1 : Int32) = 3 by decide)
  · exact absurd h (show ¬ (2 : Int32) = 3 by decide)
  · exact ⟨w.1, w.2, rfl⟩
/-- parts of one list are PACKS of one depth -/
theorem vw_dep {n m m' : Nat} {x y : Th n} {w : List (Th m)} {w' : List (Th m')} (h : vw ⟨n, x⟩ = vP m w) (h' : vw ⟨n, y⟩ = vP m' w') : m = m' := by
  have key : ∀ {n m : Nat} {x : Th n} {w : List (Th m)}, vw ⟨n, x⟩ = vP m w → n = m + 1 := fun {n m x w} h => by
    match n, x, h with
    | 0, p, h => obtain z | r | q := p <;> cases h
    | n + 1, x, h =>
      obtain p | l := x
      · obtain z | r | q := p <;> cases h
      · cases h
        rfl
  have := key h
  have := key h'
  omega
section SAA
variable {N : Nat} {R R' : Nat → Prop}
theorem upd_s {f : Nat → Int32} {i : Nat} {v : Int32} : upd f i v i = v := if_pos rfl
theorem upd_n {f : Nat → Int32} {i j : Nat} {v : Int32} (h : ¬ j = i) : upd f i v j = f j := if_neg h
theorem sm_0 {f : Nat} {s : mS} : mf_346_L1 N (f + 1) 0 0 s = some (s, some (.int 0)) := by
  show mf_346_64 N (mf_346_L1 N f) 0 s = _
  repeat ((first | unfold mf_346 | unfold mf_346_0 | unfold mf_346_15 | unfold mf_346_17 | unfold mf_346_27 | unfold mf_346_33 | unfold mf_346_34 | unfold mf_346_39 | unfold mf_346_44 | unfold mf_346_47 | unfold mf_346_51 | unfold mf_346_52 | unfold mf_346_64 | unfold mf_346_68 | unfold mf_346_75 | unfold mf_346_122 | unfold mf_346_125 | unfold mf_346_138 | unfold mf_346_161 | unfold mf_346_164 | unfold mf_346_172 | unfold mf_346_175 | unfold mf_346_183 | unfold mf_346_186 | unfold mf_346_194 | unfold mf_346_197 | unfold mf_346_228 | unfold mf_346_232 | unfold mf_346_233 | unfold mf_346_237 | unfold mf_346_245 | unfold mf_346_255 | unfold mf_346_274 | unfold mf_346_285 | unfold mf_346_291 | unfold mf_346_297 | unfold mf_346_300 | unfold mf_346_303 | unfold mf_346_311 | unfold mf_346_314 | unfold mf_346_318 | unfold mf_346_319 | unfold mf_346_331 | unfold mf_346_339 | unfold mf_346_342); try simp (disch := omega) only [ev_S, ev_P, ↓reduceIte, Nat.reduceEqDiff, Nat.reduceLeDiff, Nat.reduceAdd, Nat.reduceMul, Nat.reduceSub, reduceCtorEq, l32_0, l32_1, l32_2, l32_3, l32_4, l32_8, l32_47, l32_52, l32_53, l32_54, l32_55, l32_166300])
/-- goesIn -/
abbrev gin (s : mS) (d a b : Nat) : mS := mI (mA (mA (mA s 52 (upd (s.2.2.1 52) d (Int32.ofNat a))) 53 (upd (s.2.2.1 53) d (Int32.ofNat b))) 54 (upd (s.2.2.1 54) d (Int32.ofNat 0))) 55 (Int32.ofNat (d + 1))
theorem r_goesIn {s : mS} {d a b : Nat} (hd : d < 8) (h55 : s.1 55 = Int32.ofNat d) : mf_296 N (Int32.ofNat a) (Int32.ofNat b) s = some (gin s d a b, none) := by
  repeat ((first | unfold mf_296 | unfold mf_296_0); try simp (disch := omega) only [ev_S, ev_P, ↓reduceIte, Nat.reduceEqDiff, Nat.reduceLeDiff, Nat.reduceAdd, Nat.reduceMul, Nat.reduceSub, reduceCtorEq, l32_0, l32_1, l32_2, l32_3, l32_4, l32_8, l32_52, l32_53, l32_54, l32_55, h55])
abbrev nxt (s : mS) (d i : Nat) : mS := mA s 54 (upd (s.2.2.1 54) d (Int32.ofNat (i + 1)))
/-- one part of both -/
theorem sm_part {d a b i n : Nat} {s : mS} {l l' : List (Th n)} (hN : 170000 ≤ N) (hR : ∀ y, R y → y < 166300) (hR' : ∀ y, R' y → y < 166300) (hd : d + 1 < 8) (h55 : s.1 55 = Int32.ofNat (d + 1)) (h52 : s.2.2.1 52 d = Int32.ofNat a) (h53 : s.2.2.1 53 d = Int32.ofNat b) (h54 : s.2.2.1 54 d = Int32.ofNat i) (H : Wy (s.2.2.1 47) a (LayN (s.2.2.1 47) R) (vP n l)) (ha : a + wV wn (vP n l) ≤ 166300) (H' : Wy (s.2.2.1 47) b (LayN (s.2.2.1 47) R') (vP n l')) (hb : b + wV wn (vP n l') ≤ 166300) (hl : l.length = l'.length) (hi : i < l.length) (hw : ∀ y ∈ l, wfT n y) (hw' : ∀ y ∈ l', wfT n y) : 
    (∀ f, mf_346_L1 N (f + 1) 0 1 s = mf_346_L1 N f 0 (if ser n l[i] = ser n (l'[i]'(by omega)) then 1 else 0) (nxt s d i)) ∨ (∃ c c', ¬ ser n l[i] = ser n (l'[i]'(by omega)) ∧ ∀ f, mf_346_L1 N (f + 1) 0 1 s = mf_346_L1 N f 0 0 (gin (nxt s d i) (d + 1) c c')) ∨ (∃ c c', ∃ m : Nat, ∃ w w' : List (Th m), vw ⟨n, l[i]⟩ = vP m w ∧ vw ⟨n, l'[i]'(by omega)⟩ = vP m w' ∧ (∀ f, mf_346_L1 N (f + 1) 0 1 s = mf_346_L1 N f 0 (if w.length = w'.length then 1 else 0) (gin (nxt s d i) (d + 1) c c')) ∧ Wy (s.2.2.1 47) c (LayN (s.2.2.1 47) R) (vP m w) ∧ c + wV wn (vP m w) ≤ 166300 ∧ Wy (s.2.2.1 47) c' (LayN (s.2.2.1 47) R') (vP m w') ∧ c' + wV wn (vP m w') ≤ 166300) := by
  have hwa : a + (2 + 2 * l.length) ≤ 166300 := ha
  have hwb : b + (2 + 2 * l'.length) ≤ 166300 := hb
  have hi' : i < l'.length := by omega
  have hz := r_size (N := N) H ha
  have i1 := r_isInt (N := N) (s := nxt s d i) H ha hi
  have i2 := r_isInt (N := N) (s := nxt s d i) H' hb hi'
  have q1 : intT n l[i] = _ := vw_int ⟨n, l[i]⟩
  have q2 : intT n l'[i] = _ := vw_int ⟨n, l'[i]⟩
  have w1 := vw_wf ⟨n, l[i]⟩ (hw _ (List.getElem_mem _))
  have w2 := vw_wf ⟨n, l'[i]⟩ (hw' _ (List.getElem_mem _))
  have s1 : ser n l[i] = _ := vw_ser ⟨n, l[i]⟩
  have s2 : ser n l'[i] = _ := vw_ser ⟨n, l'[i]⟩
  have e64 : ∀ f, mf_346_L1 N (f + 1) 0 1 s = mf_346_64 N (mf_346_L1 N f) 1 s := fun _ => rfl
  rw [s1, s2]
  cases hA : intT n l[i] with
  | some z =>
    rw [hA] at i1
    have i1 : mf_293 N (Int32.ofNat a) (Int32.ofNat i) (nxt s d i) = some (nxt s d i, some (.int 1)) := i1
    obtain ⟨y1, y2⟩ := (H.2.2 i hi).1 z hA
    have v1 := intV_s (q1.symm.trans hA)
    refine Or.inl (fun f => ?_)
    rw [e64, v1]
    cases hB : intT n l'[i] with
    | some z' =>
      rw [hB] at i2
      have i2 : mf_293 N (Int32.ofNat b) (Int32.ofNat i) (nxt s d i) = some (nxt s d i, some (.int 1)) := i2
      obtain ⟨x1, x2⟩ := (H'.2.2 i hi').1 z' hB
      have v2 := intV_s (q2.symm.trans hB)
      rw [v2]
      by_cases e : z = z'
      · rw [if_pos (by rw [e])]
        repeat ((first | unfold mf_346 | unfold mf_346_0 | unfold mf_346_15 | unfold mf_346_17 | unfold mf_346_27 | unfold mf_346_33 | unfold mf_346_34 | unfold mf_346_39 | unfold mf_346_44 | unfold mf_346_47 | unfold mf_346_51 | unfold mf_346_52 | unfold mf_346_64 | unfold mf_346_68 | unfold mf_346_75 | unfold mf_346_122 | unfold mf_346_125 | unfold mf_346_138 | unfold mf_346_161 | unfold mf_346_164 | unfold mf_346_172 | unfold mf_346_175 | unfold mf_346_183 | unfold mf_346_186 | unfold mf_346_194 | unfold mf_346_197 | unfold mf_346_228 | unfold mf_346_232 | unfold mf_346_233 | unfold mf_346_237 | unfold mf_346_245 | unfold mf_346_255 | unfold mf_346_274 | unfold mf_346_285 | unfold mf_346_291 | unfold mf_346_297 | unfold mf_346_300 | unfold mf_346_303 | unfold mf_346_311 | unfold mf_346_314 | unfold mf_346_318 | unfold mf_346_319 | unfold mf_346_331 | unfold mf_346_339 | unfold mf_346_342); try simp (disch := omega) only [ev_S, ev_P, ↓reduceIte, Nat.reduceEqDiff, Nat.reduceLeDiff, Nat.reduceAdd, Nat.reduceMul, Nat.reduceSub, reduceCtorEq, l32_0, l32_1, l32_2, l32_3, l32_4, l32_8, l32_47, l32_52, l32_53, l32_54, l32_55, l32_166300, h55, h52, h53, h54, hz, szV, i1, i2, y2, x2, e, upd_s])
      · rw [if_neg (show ¬ serV (Sum.inl z) = serV (Sum.inl z') from fun q => e (List.cons.inj (List.cons.inj q).2).1)]
        repeat ((first | unfold mf_346 | unfold mf_346_0 | unfold mf_346_15 | unfold mf_346_17 | unfold mf_346_27 | unfold mf_346_33 | unfold mf_346_34 | unfold mf_346_39 | unfold mf_346_44 | unfold mf_346_47 | unfold mf_346_51 | unfold mf_346_52 | unfold mf_346_64 | unfold mf_346_68 | unfold mf_346_75 | unfold mf_346_122 | unfold mf_346_125 | unfold mf_346_138 | unfold mf_346_161 | unfold mf_346_164 | unfold mf_346_172 | unfold mf_346_175 | unfold mf_346_183 | unfold mf_346_186 | unfold mf_346_194 | unfold mf_346_197 | unfold mf_346_228 | unfold mf_346_232 | unfold mf_346_233 | unfold mf_346_237 | unfold mf_346_245 | unfold mf_346_255 | unfold mf_346_274 | unfold mf_346_285 | unfold mf_346_291 | unfold mf_346_297 | unfold mf_346_300 | unfold mf_346_303 | unfold mf_346_311 | unfold mf_346_314 | unfold mf_346_318 | unfold mf_346_319 | unfold mf_346_331 | unfold mf_346_339 | unfold mf_346_342); try simp (disch := omega) only [ev_S, ev_P, ↓reduceIte, Nat.reduceEqDiff, Nat.reduceLeDiff, Nat.reduceAdd, Nat.reduceMul, Nat.reduceSub, reduceCtorEq, l32_0, l32_1, l32_2, l32_3, l32_4, l32_8, l32_47, l32_52, l32_53, l32_54, l32_55, l32_166300, h55, h52, h53, h54, hz, szV, i1, i2, y2, x2, e, upd_s])
    | none =>
      rw [hB] at i2
      have i2 : mf_293 N (Int32.ofNat b) (Int32.ofNat i) (nxt s d i) = some (nxt s d i, some (.int 0)) := i2
      have v2 := intV_n (q2.symm.trans hB)
      rw [if_neg (serV_kd (fun q => v2 q.symm))]
      repeat ((first | unfold mf_346 | unfold mf_346_0 | unfold mf_346_15 | unfold mf_346_17 | unfold mf_346_27 | unfold mf_346_33 | unfold mf_346_34 | unfold mf_346_39 | unfold mf_346_44 | unfold mf_346_47 | unfold mf_346_51 | unfold mf_346_52 | unfold mf_346_64 | unfold mf_346_68 | unfold mf_346_75 | unfold mf_346_122 | unfold mf_346_125 | unfold mf_346_138 | unfold mf_346_161 | unfold mf_346_164 | unfold mf_346_172 | unfold mf_346_175 | unfold mf_346_183 | unfold mf_346_186 | unfold mf_346_194 | unfold mf_346_197 | unfold mf_346_228 | unfold mf_346_232 | unfold mf_346_233 | unfold mf_346_237 | unfold mf_346_245 | unfold mf_346_255 | unfold mf_346_274 | unfold mf_346_285 | unfold mf_346_291 | unfold mf_346_297 | unfold mf_346_300 | unfold mf_346_303 | unfold mf_346_311 | unfold mf_346_314 | unfold mf_346_318 | unfold mf_346_319 | unfold mf_346_331 | unfold mf_346_339 | unfold mf_346_342); try simp (disch := omega) only [ev_S, ev_P, ↓reduceIte, Nat.reduceEqDiff, Nat.reduceLeDiff, Nat.reduceAdd, Nat.reduceMul, Nat.reduceSub, reduceCtorEq, l32_0, l32_1, l32_2, l32_3, l32_4, l32_8, l32_47, l32_52, l32_53, l32_54, l32_55, l32_166300, h55, h52, h53, h54, hz, szV, i1, i2, upd_s])
  | none =>
    rw [hA] at i1
    have i1 : mf_293 N (Int32.ofNat a) (Int32.ofNat i) (nxt s d i) = some (nxt s d i, some (.int 0)) := i1
    have v1 := intV_n (q1.symm.trans hA)
    cases hB : intT n l'[i] with
    | some z' =>
      rw [hB] at i2
      have i2 : mf_293 N (Int32.ofNat b) (Int32.ofNat i) (nxt s d i) = some (nxt s d i, some (.int 1)) := i2
      have v2 := intV_s (q2.symm.trans hB)
      refine Or.inl (fun f => ?_)
      rw [e64, v2, if_neg (serV_kd (fun q => v1 q))]
      repeat ((first | unfold mf_346 | unfold mf_346_0 | unfold mf_346_15 | unfold mf_346_17 | unfold mf_346_27 | unfold mf_346_33 | unfold mf_346_34 | unfold mf_346_39 | unfold mf_346_44 | unfold mf_346_47 | unfold mf_346_51 | unfold mf_346_52 | unfold mf_346_64 | unfold mf_346_68 | unfold mf_346_75 | unfold mf_346_122 | unfold mf_346_125 | unfold mf_346_138 | unfold mf_346_161 | unfold mf_346_164 | unfold mf_346_172 | unfold mf_346_175 | unfold mf_346_183 | unfold mf_346_186 | unfold mf_346_194 | unfold mf_346_197 | unfold mf_346_228 | unfold mf_346_232 | unfold mf_346_233 | unfold mf_346_237 | unfold mf_346_245 | unfold mf_346_255 | unfold mf_346_274 | unfold mf_346_285 | unfold mf_346_291 | unfold mf_346_297 | unfold mf_346_300 | unfold mf_346_303 | unfold mf_346_311 | unfold mf_346_314 | unfold mf_346_318 | unfold mf_346_319 | unfold mf_346_331 | unfold mf_346_339 | unfold mf_346_342); try simp (disch := omega) only [ev_S, ev_P, ↓reduceIte, Nat.reduceEqDiff, Nat.reduceLeDiff, Nat.reduceAdd, Nat.reduceMul, Nat.reduceSub, reduceCtorEq, l32_0, l32_1, l32_2, l32_3, l32_4, l32_8, l32_47, l32_52, l32_53, l32_54, l32_55, l32_166300, h55, h52, h53, h54, hz, szV, i1, i2, upd_s])
    | none =>
      rw [hB] at i2
      have i2 : mf_293 N (Int32.ofNat b) (Int32.ofNat i) (nxt s d i) = some (nxt s d i, some (.int 0)) := i2
      have v2 := intV_n (q2.symm.trans hB)
      obtain ⟨c, g1, g2⟩ := r_partP (N := N) (s := nxt s d i) H ha hi hA
      obtain ⟨c', g1', g2'⟩ := r_partP (N := N) (s := nxt s d i) H' hb hi' hB
      obtain ⟨L1, L2⟩ := LayN_iff.mp g2
      obtain ⟨L1', L2'⟩ := LayN_iff.mp g2'
      have k1 := L2.kd
      have k2 := L2'.kd
      have hc : c + wV wn (vw ⟨n, l[i]⟩) ≤ 166300 := by
        have := hR _ (L1 (c + wV wn (vw ⟨n, l[i]⟩) - 1) (by omega) (by omega))
        omega
      have hc' : c' + wV wn (vw ⟨n, l'[i]⟩) ≤ 166300 := by
        have := hR' _ (L1' (c' + wV wn (vw ⟨n, l'[i]⟩) - 1) (by omega) (by omega))
        omega
      generalize hV : vw ⟨n, l[i]⟩ = V at k1 hc L2 s1 w1 v1
      generalize hV' : vw ⟨n, l'[i]⟩ = V' at k2 hc' L2' s2 w2 v2
      have k1a : s.2.2.1 47 c = kdV V := k1.1
      have k2a : s.2.2.1 47 c' = kdV V' := k2.1
      have k1b := k1.2.2
      have k2b := k2.2.2
      have c1 : c < 166300 := by omega
      have c2 : c' < 166300 := by omega
      have gg := r_goesIn (N := N) (s := nxt s d i) (d := d + 1) (a := c) (b := c') hd h55
      by_cases hk : kdV V = kdV V'
      · by_cases h3 : kdV V = 3
        · obtain ⟨m, w, rfl⟩ := kdV_3 h3
          obtain ⟨m', w', rfl⟩ := kdV_3 (hk.symm.trans h3)
          cases vw_dep hV hV'
          have z1 := r_size (N := N) (s := nxt s d i) L2 hc
          have z2 := r_size (N := N) (s := nxt s d i) L2' hc'
          refine Or.inr (Or.inr ⟨c, c', m, w, w', rfl, rfl, fun f => ?_, L2, hc, L2', hc'⟩)
          rw [e64]
          have k1a : s.2.2.1 47 c = 3 := k1a
          have k2a : s.2.2.1 47 c' = 3 := k2a
          have wl : w.length ≤ 20 := w1.1
          have wl' : w'.length ≤ 20 := w2.1
          by_cases e : w.length = w'.length
          · repeat ((first | unfold mf_346 | unfold mf_346_0 | unfold mf_346_15 | unfold mf_346_17 | unfold mf_346_27 | unfold mf_346_33 | unfold mf_346_34 | unfold mf_346_39 | unfold mf_346_44 | unfold mf_346_47 | unfold mf_346_51 | unfold mf_346_52 | unfold mf_346_64 | unfold mf_346_68 | unfold mf_346_75 | unfold mf_346_122 | unfold mf_346_125 | unfold mf_346_138 | unfold mf_346_161 | unfold mf_346_164 | unfold mf_346_172 | unfold mf_346_175 | unfold mf_346_183 | unfold mf_346_186 | unfold mf_346_194 | unfold mf_346_197 | unfold mf_346_228 | unfold mf_346_232 | unfold mf_346_233 | unfold mf_346_237 | unfold mf_346_245 | unfold mf_346_255 | unfold mf_346_274 | unfold mf_346_285 | unfold mf_346_291 | unfold mf_346_297 | unfold mf_346_300 | unfold mf_346_303 | unfold mf_346_311 | unfold mf_346_314 | unfold mf_346_318 | unfold mf_346_319 | unfold mf_346_331 | unfold mf_346_339 | unfold mf_346_342); try simp (disch := omega) only [ev_S, ev_P, ↓reduceIte, Nat.reduceEqDiff, Nat.reduceLeDiff, Nat.reduceAdd, Nat.reduceMul, Nat.reduceSub, reduceCtorEq, l32_0, l32_1, l32_2, l32_3, l32_4, l32_8, l32_47, l32_52, l32_53, l32_54, l32_55, l32_166300, h55, h52, h53, h54, hz, szV, i1, i2, upd_s, g1, g1', k1a, k2a, z1, z2, e, gg])
          · repeat ((first | unfold mf_346 | unfold mf_346_0 | unfold mf_346_15 | unfold mf_346_17 | unfold mf_346_27 | unfold mf_346_33 | unfold mf_346_34 | unfold mf_346_39 | unfold mf_346_44 | unfold mf_346_47 | unfold mf_346_51 | unfold mf_346_52 | unfold mf_346_64 | unfold mf_346_68 | unfold mf_346_75 | unfold mf_346_122 | unfold mf_346_125 | unfold mf_346_138 | unfold mf_346_161 | unfold mf_346_164 | unfold mf_346_172 | unfold mf_346_175 | unfold mf_346_183 | unfold mf_346_186 | unfold mf_346_194 | unfold mf_346_197 | unfold mf_346_228 | unfold mf_346_232 | unfold mf_346_233 | unfold mf_346_237 | unfold mf_346_245 | unfold mf_346_255 | unfold mf_346_274 | unfold mf_346_285 | unfold mf_346_291 | unfold mf_346_297 | unfold mf_346_300 | unfold mf_346_303 | unfold mf_346_311 | unfold mf_346_314 | unfold mf_346_318 | unfold mf_346_319 | unfold mf_346_331 | unfold mf_346_339 | unfold mf_346_342); try simp (disch := omega) only [ev_S, ev_P, ↓reduceIte, Nat.reduceEqDiff, Nat.reduceLeDiff, Nat.reduceAdd, Nat.reduceMul, Nat.reduceSub, reduceCtorEq, l32_0, l32_1, l32_2, l32_3, l32_4, l32_8, l32_47, l32_52, l32_53, l32_54, l32_55, l32_166300, h55, h52, h53, h54, hz, szV, i1, i2, upd_s, g1, g1', k1a, k2a, z1, z2, e, gg])
        · have es := r_plainSame (s := nxt s d i) hN hR hR' L2 hc L2' hc' hk h3 w1 w2
          refine Or.inl (fun f => ?_)
          rw [e64]
          have h3' : ¬ kdV V' = Int32.ofNat 3 := hk ▸ h3
          by_cases e : serV V = serV V'
          · rw [if_pos e] at es ⊢
            repeat ((first | unfold mf_346 | unfold mf_346_0 | unfold mf_346_15 | unfold mf_346_17 | unfold mf_346_27 | unfold mf_346_33 | unfold mf_346_34 | unfold mf_346_39 | unfold mf_346_44 | unfold mf_346_47 | unfold mf_346_51 | unfold mf_346_52 | unfold mf_346_64 | unfold mf_346_68 | unfold mf_346_75 | unfold mf_346_122 | unfold mf_346_125 | unfold mf_346_138 | unfold mf_346_161 | unfold mf_346_164 | unfold mf_346_172 | unfold mf_346_175 | unfold mf_346_183 | unfold mf_346_186 | unfold mf_346_194 | unfold mf_346_197 | unfold mf_346_228 | unfold mf_346_232 | unfold mf_346_233 | unfold mf_346_237 | unfold mf_346_245 | unfold mf_346_255 | unfold mf_346_274 | unfold mf_346_285 | unfold mf_346_291 | unfold mf_346_297 | unfold mf_346_300 | unfold mf_346_303 | unfold mf_346_311 | unfold mf_346_314 | unfold mf_346_318 | unfold mf_346_319 | unfold mf_346_331 | unfold mf_346_339 | unfold mf_346_342); try simp (disch := omega) only [ev_S, ev_P, ↓reduceIte, Nat.reduceEqDiff, Nat.reduceLeDiff, Nat.reduceAdd, Nat.reduceMul, Nat.reduceSub, reduceCtorEq, l32_0, l32_1, l32_2, l32_3, l32_4, l32_8, l32_47, l32_52, l32_53, l32_54, l32_55, l32_166300, h55, h52, h53, h54, hz, szV, i1, i2, upd_s, g1, g1', k1a, k2a, hk, h3', es])
          · rw [if_neg e] at es ⊢
            repeat ((first | unfold mf_346 | unfold mf_346_0 | unfold mf_346_15 | unfold mf_346_17 | unfold mf_346_27 | unfold mf_346_33 | unfold mf_346_34 | unfold mf_346_39 | unfold mf_346_44 | unfold mf_346_47 | unfold mf_346_51 | unfold mf_346_52 | unfold mf_346_64 | unfold mf_346_68 | unfold mf_346_75 | unfold mf_346_122 | unfold mf_346_125 | unfold mf_346_138 | unfold mf_346_161 | unfold mf_346_164 | unfold mf_346_172 | unfold mf_346_175 | unfold mf_346_183 | unfold mf_346_186 | unfold mf_346_194 | unfold mf_346_197 | unfold mf_346_228 | unfold mf_346_232 | unfold mf_346_233 | unfold mf_346_237 | unfold mf_346_245 | unfold mf_346_255 | unfold mf_346_274 | unfold mf_346_285 | unfold mf_346_291 | unfold mf_346_297 | unfold mf_346_300 | unfold mf_346_303 | unfold mf_346_311 | unfold mf_346_314 | unfold mf_346_318 | unfold mf_346_319 | unfold mf_346_331 | unfold mf_346_339 | unfold mf_346_342); try simp (disch := omega) only [ev_S, ev_P, ↓reduceIte, Nat.reduceEqDiff, Nat.reduceLeDiff, Nat.reduceAdd, Nat.reduceMul, Nat.reduceSub, reduceCtorEq, l32_0, l32_1, l32_2, l32_3, l32_4, l32_8, l32_47, l32_52, l32_53, l32_54, l32_55, l32_166300, h55, h52, h53, h54, hz, szV, i1, i2, upd_s, g1, g1', k1a, k2a, hk, h3', es])
      · by_cases h3 : kdV V = 3
        · refine Or.inr (Or.inl ⟨c, c', serV_kd hk, fun f => ?_⟩)
          rw [e64]
          have hk' : ¬ Int32.ofNat 3 = kdV V' := fun q => hk (h3.trans q)
          repeat ((first | unfold mf_346 | unfold mf_346_0 | unfold mf_346_15 | unfold mf_346_17 | unfold mf_346_27 | unfold mf_346_33 | unfold mf_346_34 | unfold mf_346_39 | unfold mf_346_44 | unfold mf_346_47 | unfold mf_346_51 | unfold mf_346_52 | unfold mf_346_64 | unfold mf_346_68 | unfold mf_346_75 | unfold mf_346_122 | unfold mf_346_125 | unfold mf_346_138 | unfold mf_346_161 | unfold mf_346_164 | unfold mf_346_172 | unfold mf_346_175 | unfold mf_346_183 | unfold mf_346_186 | unfold mf_346_194 | unfold mf_346_197 | unfold mf_346_228 | unfold mf_346_232 | unfold mf_346_233 | unfold mf_346_237 | unfold mf_346_245 | unfold mf_346_255 | unfold mf_346_274 | unfold mf_346_285 | unfold mf_346_291 | unfold mf_346_297 | unfold mf_346_300 | unfold mf_346_303 | unfold mf_346_311 | unfold mf_346_314 | unfold mf_346_318 | unfold mf_346_319 | unfold mf_346_331 | unfold mf_346_339 | unfold mf_346_342); try simp (disch := omega) only [ev_S, ev_P, ↓reduceIte, Nat.reduceEqDiff, Nat.reduceLeDiff, Nat.reduceAdd, Nat.reduceMul, Nat.reduceSub, reduceCtorEq, l32_0, l32_1, l32_2, l32_3, l32_4, l32_8, l32_47, l32_52, l32_53, l32_54, l32_55, l32_166300, h55, h52, h53, h54, hz, szV, i1, i2, upd_s, g1, g1', k1a, k2a, h3, hk', gg])
        · refine Or.inl (fun f => ?_)
          rw [if_neg (serV_kd hk), e64]
          have h3' : ¬ kdV V = Int32.ofNat 3 := h3
          repeat ((first | unfold mf_346 | unfold mf_346_0 | unfold mf_346_15 | unfold mf_346_17 | unfold mf_346_27 | unfold mf_346_33 | unfold mf_346_34 | unfold mf_346_39 | unfold mf_346_44 | unfold mf_346_47 | unfold mf_346_51 | unfold mf_346_52 | unfold mf_346_64 | unfold mf_346_68 | unfold mf_346_75 | unfold mf_346_122 | unfold mf_346_125 | unfold mf_346_138 | unfold mf_346_161 | unfold mf_346_164 | unfold mf_346_172 | unfold mf_346_175 | unfold mf_346_183 | unfold mf_346_186 | unfold mf_346_194 | unfold mf_346_197 | unfold mf_346_228 | unfold mf_346_232 | unfold mf_346_233 | unfold mf_346_237 | unfold mf_346_245 | unfold mf_346_255 | unfold mf_346_274 | unfold mf_346_285 | unfold mf_346_291 | unfold mf_346_297 | unfold mf_346_300 | unfold mf_346_303 | unfold mf_346_311 | unfold mf_346_314 | unfold mf_346_318 | unfold mf_346_319 | unfold mf_346_331 | unfold mf_346_339 | unfold mf_346_342); try simp (disch := omega) only [ev_S, ev_P, ↓reduceIte, Nat.reduceEqDiff, Nat.reduceLeDiff, Nat.reduceAdd, Nat.reduceMul, Nat.reduceSub, reduceCtorEq, l32_0, l32_1, l32_2, l32_3, l32_4, l32_8, l32_47, l32_52, l32_53, l32_54, l32_55, l32_166300, h55, h52, h53, h54, hz, szV, i1, i2, upd_s, g1, g1', k1a, k2a, hk, h3'])
end SAA
