/-! ===== PURE: run (34): grid, rows: the reference ===== -/
theorem i32m {z : Int32} (h : z < 0) : z.toInt < 0 := by
  rw [Int32.lt_iff_toInt_lt] at h
  exact h
theorem lgI_le {a b : Int64} : (lg_cmp a b ≤ 0) ↔ a.toInt ≤ b.toInt := by
  unfold lg_cmp
  by_cases c : a > b
  · rw [if_pos c]
    have c : b < a := c
    rw [Int64.lt_iff_toInt_lt] at c
    exact ⟨fun q => absurd q (by decide), fun q => absurd q (Int.not_le.mpr c)⟩
  · rw [if_neg c]
    have c' : a.toInt ≤ b.toInt := by
      have : ¬ b < a := c
      rw [Int64.lt_iff_toInt_lt] at this
      exact Int.not_lt.mp this
    refine ⟨fun _ => c', fun _ => ?_⟩
    split
    · decide
    · decide
def pz (z : Int32) : Nat := if z < 0 then 0 else z.toNatClampNeg
theorem pz_o {p : Nat} (h : p < 2147483648) : pz (Int32.ofNat p) = p := by
  unfold pz
  rw [if_neg (i32n h), ev_S.1 h]
theorem pz_n {z : Int32} (h : z < 0) : pz z = 0 := if_pos h
def zer (n : Nat) : List Int32 := List.replicate n 0
theorem zer_s {n : Nat} : zer (n + 1) = zer n ++ [0] := by
  unfold zer
  rw [List.replicate_succ']
def ansG (z z' : Int32) : Ans := if 20 < pz z ∨ 64 < pz z' ∨ 200 < pz z * pz z' then .inl 2 else if z < 0 ∨ z' < 0 then .inl 1 else ansM 2 ((List.replicate (pz z) (zer (pz z'))).map nR)
def ansW (r : List Int32) : Ans := if 20 < r.length ∨ (r.any fun z => decide (64 < pz z)) = true ∨ 200 < (r.map pz).sum then .inl 2 else if (r.any fun z => decide (z < 0)) = true then .inl 1 else ansM 2 ((r.map fun z => zer (pz z)).map nR)
section MK3
variable {N : Nat} {s s' : mS} {n f f' m q : Nat} {x : Nod} {ys xs : List Nod} {xv yv : Int32}
theorem r_zeros (hN : 170000 ≤ N) (G : rG s s' n f f' xs) (hn : n + xs.length + q < 9000) (hq : q < 2147483648) : ∃ s'', mf_329 N (Int32.ofNat q) s' = some (s'', none) ∧ rG s s'' n f f' (xs ++ (zer q).map nZ) := by
  have hl : ∀ i, ((zer i).map nZ).length = i := fun i => by rw [List.length_map]; exact List.length_replicate
  have E1 : mf_329 N (Int32.ofNat q) s' = mf_329_L1 N N 0 (Int32.ofNat q) (Int32.ofNat 0) s' := rfl
  rw [E1]
  refine lp (fun F i (s1 : mS) => mf_329_L1 N F 0 (Int32.ofNat q) (Int32.ofNat i) s1) q (fun i s1 => rG s s1 n f f' (xs ++ (zer i).map nZ)) (fun R => ∃ s'', R = some (s'', none) ∧ rG s s'' n f f' (xs ++ (zer q).map nZ)) ?_ ?_ q 0 N s' (Nat.zero_add _) (by omega) (by rw [show (zer 0).map nZ = [] from rfl, List.append_nil]; exact G)
  · intro F i s1 hi G _
    left
    have n1 : ¬ q ≤ i := by omega
    obtain ⟨s2, p1, p2⟩ := rG.pushZ (N := N) G (by rw [List.length_append, hl]; omega) 0
    have p1 : mf_291 N (Int32.ofNat 0) (Int32.ofNat 0) s1 = _ := p1
    refine ⟨s2, ?_, ?_⟩
    · rw [zer_s, List.map_append, ← List.append_assoc]
      exact p2
    · show mf_329_2 N (mf_329_L1 N F) (Int32.ofNat q) (Int32.ofNat i) s1 = _
      unfold mf_329_2 mf_329_7 mf_329_13
      simp (disch := omega) only [ev_S, ev_P, ↓reduceIte, Nat.reduceEqDiff, Nat.reduceLeDiff, Nat.reduceAdd, Nat.reduceMul, Nat.reduceSub, reduceCtorEq, l32_0, l32_1, l32_2, l32_3, l32_4, l32_5, l32_6, l32_7, l32_8, l32_9, l32_10, l32_11, l32_12, l32_13, l32_14, l32_15, l32_16, l32_17, l32_18, l32_19, l32_20, l32_21, l32_22, l32_23, l32_24, l32_25, l32_26, l32_27, l32_28, l32_29, l32_33, l32_40, l32_41, l32_44, l32_45, l32_59, l32_61, l32_91, l32_93, l32_123, l32_125, n1, p1]
  · intro F s1 G
    refine ⟨s1, ?_, G⟩
    show mf_329_2 N (mf_329_L1 N F) (Int32.ofNat q) (Int32.ofNat q) s1 = _
    unfold mf_329_2 mf_329_19
    simp (disch := omega) only [ev_S, ev_P, ↓reduceIte, Nat.reduceEqDiff, Nat.reduceLeDiff, Nat.reduceAdd, Nat.reduceMul, Nat.reduceSub, reduceCtorEq, l32_0, l32_1, l32_2, l32_3, l32_4, l32_5, l32_6, l32_7, l32_8, l32_9, l32_10, l32_11, l32_12, l32_13, l32_14, l32_15, l32_16, l32_17, l32_18, l32_19, l32_20, l32_21, l32_22, l32_23, l32_24, l32_25, l32_26, l32_27, l32_28, l32_29, l32_33, l32_40, l32_41, l32_44, l32_45, l32_59, l32_61, l32_91, l32_93, l32_123, l32_125]
theorem rep_s {α : Type} {a : α} {n : Nat} : List.replicate (n + 1) a = List.replicate n a ++ [a] := List.replicate_succ'
theorem rep_sum {q k : Nat} : ((List.replicate q (zer k)).map List.length).sum = q * k := by
  induction q with
  | zero => rw [Nat.zero_mul]; rfl
  | succ q ih =>
    rw [rep_s, List.map_append, List.sum_append, ih, Nat.succ_mul]
    show _ + ((zer k).length + 0) = _
    rw [show (zer k).length = k from List.length_replicate]
    omega
theorem r_mk3 (hN : 170000 ≤ N) (H : rA s n f m ys) : ∃ s', mf_330 N (Int32.ofNat 3) xv yv (Int32.ofNat n) s = some (s', none) ∧ rE s s' n f m (ansG xv yv) := by
  have H' := H
  obtain ⟨-, H2, H3, H4, H5, H6, H7, H8, H9, H10⟩ := H'
  have G0 : rG s (mI s 51 (Int32.ofNat n)) n f f [] := rG.nil H2
  have T := fun k => rA.trb (N := N) H s vfr.rf rfl rfl rfl k
  unfold ansG
  by_cases z0 : xv < 0
  · have x1 := (i32neg z0 (k := 20) (by omega)).2.1
    have x2 := (i32neg z0 (k := 0) (by omega)).2.2.1
    have x3 : xv < Int32.ofNat 0 := z0
    rw [pz_n z0, Nat.zero_mul]
    by_cases y0 : yv < 0
    · rw [pz_n y0, if_neg (by omega), if_pos (Or.inl z0)]
      obtain ⟨b1, b2⟩ := T 1
      refine ⟨_, ?_, b2⟩
      have y1 := (i32neg y0 (k := 64) (by omega)).2.2.2
      have y2 := (i32neg y0 (k := 0) (by omega)).2.2.1
      have y3 : yv < Int32.ofNat 0 := y0
      by_cases c : yv ≤ xv
      · repeat ((first | unfold mf_330 | unfold mf_330_0 | unfold mf_330_9 | unfold mf_330_14 | unfold mf_330_16 | unfold mf_330_19 | unfold mf_330_23 | unfold mf_330_24 | unfold mf_330_31 | unfold mf_330_36 | unfold mf_330_42 | unfold mf_330_46 | unfold mf_330_50 | unfold mf_330_62 | unfold mf_330_66 | unfold mf_330_67 | unfold mf_330_74 | unfold mf_330_78 | unfold mf_330_79 | unfold mf_330_81 | unfold mf_330_86 | unfold mf_330_94 | unfold mf_330_99 | unfold mf_330_103 | unfold mf_330_104 | unfold mf_330_112 | unfold mf_330_119 | unfold mf_330_122 | unfold mf_330_127 | unfold mf_330_147 | unfold mf_330_151 | unfold mf_330_152 | unfold mf_330_161 | unfold mf_330_168 | unfold mf_330_173 | unfold mf_330_174 | unfold mf_330_184 | unfold mf_330_189 | unfold mf_330_191 | unfold mf_330_199 | unfold mf_330_204 | unfold mf_330_212 | unfold mf_330_216 | unfold mf_330_217 | unfold mf_330_219 | unfold mf_330_224 | unfold mf_330_229 | unfold mf_330_235 | unfold mf_330_239 | unfold mf_330_240 | unfold mf_330_247 | unfold mf_330_248 | unfold mf_330_259 | unfold mf_330_262 | unfold mf_330_268 | unfold mf_330_275 | unfold mf_330_280 | unfold mf_330_281 | unfold mf_330_284 | unfold mf_330_290 | unfold mf_330_296 | unfold mf_330_300 | unfold mf_330_301 | unfold mf_330_306 | unfold mf_330_307 | unfold mf_330_312 | unfold mf_330_316 | unfold mf_330_321 | unfold mf_330_326 | unfold mf_330_333 | unfold mf_330_345 | unfold mf_330_349 | unfold mf_330_360 | unfold mf_330_363 | unfold mf_330_369 | unfold mf_330_375 | unfold mf_330_382); try simp (disch := omega) only [ev_S, ev_P, ↓reduceIte, Nat.reduceEqDiff, Nat.reduceLeDiff, Nat.reduceAdd, Nat.reduceMul, Nat.reduceSub, reduceCtorEq, l32_0, l32_1, l32_2, l32_3, l32_4, l32_20, l32_47, l32_51, l32_64, l32_200, l32_166300, x1, x2, x3, y1, y2, y3, c, b1])
      · repeat ((first | unfold mf_330 | unfold mf_330_0 | unfold mf_330_9 | unfold mf_330_14 | unfold mf_330_16 | unfold mf_330_19 | unfold mf_330_23 | unfold mf_330_24 | unfold mf_330_31 | unfold mf_330_36 | unfold mf_330_42 | unfold mf_330_46 | unfold mf_330_50 | unfold mf_330_62 | unfold mf_330_66 | unfold mf_330_67 | unfold mf_330_74 | unfold mf_330_78 | unfold mf_330_79 | unfold mf_330_81 | unfold mf_330_86 | unfold mf_330_94 | unfold mf_330_99 | unfold mf_330_103 | unfold mf_330_104 | unfold mf_330_112 | unfold mf_330_119 | unfold mf_330_122 | unfold mf_330_127 | unfold mf_330_147 | unfold mf_330_151 | unfold mf_330_152 | unfold mf_330_161 | unfold mf_330_168 | unfold mf_330_173 | unfold mf_330_174 | unfold mf_330_184 | unfold mf_330_189 | unfold mf_330_191 | unfold mf_330_199 | unfold mf_330_204 | unfold mf_330_212 | unfold mf_330_216 | unfold mf_330_217 | unfold mf_330_219 | unfold mf_330_224 | unfold mf_330_229 | unfold mf_330_235 | unfold mf_330_239 | unfold mf_330_240 | unfold mf_330_247 | unfold mf_330_248 | unfold mf_330_259 | unfold mf_330_262 | unfold mf_330_268 | unfold mf_330_275 | unfold mf_330_280 | unfold mf_330_281 | unfold mf_330_284 | unfold mf_330_290 | unfold mf_330_296 | unfold mf_330_300 | unfold mf_330_301 | unfold mf_330_306 | unfold mf_330_307 | unfold mf_330_312 | unfold mf_330_316 | unfold mf_330_321 | unfold mf_330_326 | unfold mf_330_333 | unfold mf_330_345 | unfold mf_330_349 | unfold mf_330_360 | unfold mf_330_363 | unfold mf_330_369 | unfold mf_330_375 | unfold mf_330_382); try simp (disch := omega) only [ev_S, ev_P, ↓reduceIte, Nat.reduceEqDiff, Nat.reduceLeDiff, Nat.reduceAdd, Nat.reduceMul, Nat.reduceSub, reduceCtorEq, l32_0, l32_1, l32_2, l32_3, l32_4, l32_20, l32_47, l32_51, l32_64, l32_200, l32_166300, x1, x2, x3, y1, y2, y3, c, b1])
    · obtain ⟨q, hq, eq⟩ := i32nn y0
      subst eq
      rw [pz_o hq]
      by_cases c : 64 < q
      · rw [if_pos (Or.inr (Or.inl c))]
        obtain ⟨b1, b2⟩ := T 2
        refine ⟨_, ?_, b2⟩
        by_cases c' : Int32.ofNat q ≤ xv
        · repeat ((first | unfold mf_330 | unfold mf_330_0 | unfold mf_330_9 | unfold mf_330_14 | unfold mf_330_16 | unfold mf_330_19 | unfold mf_330_23 | unfold mf_330_24 | unfold mf_330_31 | unfold mf_330_36 | unfold mf_330_42 | unfold mf_330_46 | unfold mf_330_50 | unfold mf_330_62 | unfold mf_330_66 | unfold mf_330_67 | unfold mf_330_74 | unfold mf_330_78 | unfold mf_330_79 | unfold mf_330_81 | unfold mf_330_86 | unfold mf_330_94 | unfold mf_330_99 | unfold mf_330_103 | unfold mf_330_104 | unfold mf_330_112 | unfold mf_330_119 | unfold mf_330_122 | unfold mf_330_127 | unfold mf_330_147 | unfold mf_330_151 | unfold mf_330_152 | unfold mf_330_161 | unfold mf_330_168 | unfold mf_330_173 | unfold mf_330_174 | unfold mf_330_184 | unfold mf_330_189 | unfold mf_330_191 | unfold mf_330_199 | unfold mf_330_204 | unfold mf_330_212 | unfold mf_330_216 | unfold mf_330_217 | unfold mf_330_219 | unfold mf_330_224 | unfold mf_330_229 | unfold mf_330_235 | unfold mf_330_239 | unfold mf_330_240 | unfold mf_330_247 | unfold mf_330_248 | unfold mf_330_259 | unfold mf_330_262 | unfold mf_330_268 | unfold mf_330_275 | unfold mf_330_280 | unfold mf_330_281 | unfold mf_330_284 | unfold mf_330_290 | unfold mf_330_296 | unfold mf_330_300 | unfold mf_330_301 | unfold mf_330_306 | unfold mf_330_307 | unfold mf_330_312 | unfold mf_330_316 | unfold mf_330_321 | unfold mf_330_326 | unfold mf_330_333 | unfold mf_330_345 | unfold mf_330_349 | unfold mf_330_360 | unfold mf_330_363 | unfold mf_330_369 | unfold mf_330_375 | unfold mf_330_382); try simp (disch := omega) only [ev_S, ev_P, ↓reduceIte, Nat.reduceEqDiff, Nat.reduceLeDiff, Nat.reduceAdd, Nat.reduceMul, Nat.reduceSub, reduceCtorEq, l32_0, l32_1, l32_2, l32_3, l32_4, l32_20, l32_47, l32_51, l32_64, l32_200, l32_166300, x1, x2, x3, c, c', b1])
        · repeat ((first | unfold mf_330 | unfold mf_330_0 | unfold mf_330_9 | unfold mf_330_14 | unfold mf_330_16 | unfold mf_330_19 | unfold mf_330_23 | unfold mf_330_24 | unfold mf_330_31 | unfold mf_330_36 | unfold mf_330_42 | unfold mf_330_46 | unfold mf_330_50 | unfold mf_330_62 | unfold mf_330_66 | unfold mf_330_67 | unfold mf_330_74 | unfold mf_330_78 | unfold mf_330_79 | unfold mf_330_81 | unfold mf_330_86 | unfold mf_330_94 | unfold mf_330_99 | unfold mf_330_103 | unfold mf_330_104 | unfold mf_330_112 | unfold mf_330_119 | unfold mf_330_122 | unfold mf_330_127 | unfold mf_330_147 | unfold mf_330_151 | unfold mf_330_152 | unfold mf_330_161 | unfold mf_330_168 | unfold mf_330_173 | unfold mf_330_174 | unfold mf_330_184 | unfold mf_330_189 | unfold mf_330_191 | unfold mf_330_199 | unfold mf_330_204 | unfold mf_330_212 | unfold mf_330_216 | unfold mf_330_217 | unfold mf_330_219 | unfold mf_330_224 | unfold mf_330_229 | unfold mf_330_235 | unfold mf_330_239 | unfold mf_330_240 | unfold mf_330_247 | unfold mf_330_248 | unfold mf_330_259 | unfold mf_330_262 | unfold mf_330_268 | unfold mf_330_275 | unfold mf_330_280 | unfold mf_330_281 | unfold mf_330_284 | unfold mf_330_290 | unfold mf_330_296 | unfold mf_330_300 | unfold mf_330_301 | unfold mf_330_306 | unfold mf_330_307 | unfold mf_330_312 | unfold mf_330_316 | unfold mf_330_321 | unfold mf_330_326 | unfold mf_330_333 | unfold mf_330_345 | unfold mf_330_349 | unfold mf_330_360 | unfold mf_330_363 | unfold mf_330_369 | unfold mf_330_375 | unfold mf_330_382); try simp (disch := omega) only [ev_S, ev_P, ↓reduceIte, Nat.reduceEqDiff, Nat.reduceLeDiff, Nat.reduceAdd, Nat.reduceMul, Nat.reduceSub, reduceCtorEq, l32_0, l32_1, l32_2, l32_3, l32_4, l32_20, l32_47, l32_51, l32_64, l32_200, l32_166300, x1, x2, x3, c, c', b1])
      · rw [if_neg (by omega), if_pos (Or.inl z0)]
        obtain ⟨b1, b2⟩ := T 1
        refine ⟨_, ?_, b2⟩
        have c' := (i32neg z0 (k := q) hq).2.2.1
        repeat ((first | unfold mf_330 | unfold mf_330_0 | unfold mf_330_9 | unfold mf_330_14 | unfold mf_330_16 | unfold mf_330_19 | unfold mf_330_23 | unfold mf_330_24 | unfold mf_330_31 | unfold mf_330_36 | unfold mf_330_42 | unfold mf_330_46 | unfold mf_330_50 | unfold mf_330_62 | unfold mf_330_66 | unfold mf_330_67 | unfold mf_330_74 | unfold mf_330_78 | unfold mf_330_79 | unfold mf_330_81 | unfold mf_330_86 | unfold mf_330_94 | unfold mf_330_99 | unfold mf_330_103 | unfold mf_330_104 | unfold mf_330_112 | unfold mf_330_119 | unfold mf_330_122 | unfold mf_330_127 | unfold mf_330_147 | unfold mf_330_151 | unfold mf_330_152 | unfold mf_330_161 | unfold mf_330_168 | unfold mf_330_173 | unfold mf_330_174 | unfold mf_330_184 | unfold mf_330_189 | unfold mf_330_191 | unfold mf_330_199 | unfold mf_330_204 | unfold mf_330_212 | unfold mf_330_216 | unfold mf_330_217 | unfold mf_330_219 | unfold mf_330_224 | unfold mf_330_229 | unfold mf_330_235 | unfold mf_330_239 | unfold mf_330_240 | unfold mf_330_247 | unfold mf_330_248 | unfold mf_330_259 | unfold mf_330_262 | unfold mf_330_268 | unfold mf_330_275 | unfold mf_330_280 | unfold mf_330_281 | unfold mf_330_284 | unfold mf_330_290 | unfold mf_330_296 | unfold mf_330_300 | unfold mf_330_301 | unfold mf_330_306 | unfold mf_330_307 | unfold mf_330_312 | unfold mf_330_316 | unfold mf_330_321 | unfold mf_330_326 | unfold mf_330_333 | unfold mf_330_345 | unfold mf_330_349 | unfold mf_330_360 | unfold mf_330_363 | unfold mf_330_369 | unfold mf_330_375 | unfold mf_330_382); try simp (disch := omega) only [ev_S, ev_P, ↓reduceIte, Nat.reduceEqDiff, Nat.reduceLeDiff, Nat.reduceAdd, Nat.reduceMul, Nat.reduceSub, reduceCtorEq, l32_0, l32_1, l32_2, l32_3, l32_4, l32_20, l32_47, l32_51, l32_64, l32_200, l32_166300, x1, x2, x3, c, c', b1])
  · obtain ⟨p, hp, ep⟩ := i32nn z0
    subst ep
    rw [pz_o hp]
    by_cases d : 20 < p
    · rw [if_pos (Or.inl d)]
      obtain ⟨b1, b2⟩ := T 2
      refine ⟨_, ?_, b2⟩
      have d' : ¬ p ≤ 20 := by omega
      by_cases c' : yv ≤ Int32.ofNat p
      · repeat ((first | unfold mf_330 | unfold mf_330_0 | unfold mf_330_9 | unfold mf_330_14 | unfold mf_330_16 | unfold mf_330_19 | unfold mf_330_23 | unfold mf_330_24 | unfold mf_330_31 | unfold mf_330_36 | unfold mf_330_42 | unfold mf_330_46 | unfold mf_330_50 | unfold mf_330_62 | unfold mf_330_66 | unfold mf_330_67 | unfold mf_330_74 | unfold mf_330_78 | unfold mf_330_79 | unfold mf_330_81 | unfold mf_330_86 | unfold mf_330_94 | unfold mf_330_99 | unfold mf_330_103 | unfold mf_330_104 | unfold mf_330_112 | unfold mf_330_119 | unfold mf_330_122 | unfold mf_330_127 | unfold mf_330_147 | unfold mf_330_151 | unfold mf_330_152 | unfold mf_330_161 | unfold mf_330_168 | unfold mf_330_173 | unfold mf_330_174 | unfold mf_330_184 | unfold mf_330_189 | unfold mf_330_191 | unfold mf_330_199 | unfold mf_330_204 | unfold mf_330_212 | unfold mf_330_216 | unfold mf_330_217 | unfold mf_330_219 | unfold mf_330_224 | unfold mf_330_229 | unfold mf_330_235 | unfold mf_330_239 | unfold mf_330_240 | unfold mf_330_247 | unfold mf_330_248 | unfold mf_330_259 | unfold mf_330_262 | unfold mf_330_268 | unfold mf_330_275 | unfold mf_330_280 | unfold mf_330_281 | unfold mf_330_284 | unfold mf_330_290 | unfold mf_330_296 | unfold mf_330_300 | unfold mf_330_301 | unfold mf_330_306 | unfold mf_330_307 | unfold mf_330_312 | unfold mf_330_316 | unfold mf_330_321 | unfold mf_330_326 | unfold mf_330_333 | unfold mf_330_345 | unfold mf_330_349 | unfold mf_330_360 | unfold mf_330_363 | unfold mf_330_369 | unfold mf_330_375 | unfold mf_330_382); try simp (disch := omega) only [ev_S, ev_P, ↓reduceIte, Nat.reduceEqDiff, Nat.reduceLeDiff, Nat.reduceAdd, Nat.reduceMul, Nat.reduceSub, reduceCtorEq, l32_0, l32_1, l32_2, l32_3, l32_4, l32_20, l32_47, l32_51, l32_64, l32_200, l32_166300, d', c', b1])
      · repeat ((first | unfold mf_330 | unfold mf_330_0 | unfold mf_330_9 | unfold mf_330_14 | unfold mf_330_16 | unfold mf_330_19 | unfold mf_330_23 | unfold mf_330_24 | unfold mf_330_31 | unfold mf_330_36 | unfold mf_330_42 | unfold mf_330_46 | unfold mf_330_50 | unfold mf_330_62 | unfold mf_330_66 | unfold mf_330_67 | unfold mf_330_74 | unfold mf_330_78 | unfold mf_330_79 | unfold mf_330_81 | unfold mf_330_86 | unfold mf_330_94 | unfold mf_330_99 | unfold mf_330_103 | unfold mf_330_104 | unfold mf_330_112 | unfold mf_330_119 | unfold mf_330_122 | unfold mf_330_127 | unfold mf_330_147 | unfold mf_330_151 | unfold mf_330_152 | unfold mf_330_161 | unfold mf_330_168 | unfold mf_330_173 | unfold mf_330_174 | unfold mf_330_184 | unfold mf_330_189 | unfold mf_330_191 | unfold mf_330_199 | unfold mf_330_204 | unfold mf_330_212 | unfold mf_330_216 | unfold mf_330_217 | unfold mf_330_219 | unfold mf_330_224 | unfold mf_330_229 | unfold mf_330_235 | unfold mf_330_239 | unfold mf_330_240 | unfold mf_330_247 | unfold mf_330_248 | unfold mf_330_259 | unfold mf_330_262 | unfold mf_330_268 | unfold mf_330_275 | unfold mf_330_280 | unfold mf_330_281 | unfold mf_330_284 | unfold mf_330_290 | unfold mf_330_296 | unfold mf_330_300 | unfold mf_330_301 | unfold mf_330_306 | unfold mf_330_307 | unfold mf_330_312 | unfold mf_330_316 | unfold mf_330_321 | unfold mf_330_326 | unfold mf_330_333 | unfold mf_330_345 | unfold mf_330_349 | unfold mf_330_360 | unfold mf_330_363 | unfold mf_330_369 | unfold mf_330_375 | unfold mf_330_382); try simp (disch := omega) only [ev_S, ev_P, ↓reduceIte, Nat.reduceEqDiff, Nat.reduceLeDiff, Nat.reduceAdd, Nat.reduceMul, Nat.reduceSub, reduceCtorEq, l32_0, l32_1, l32_2, l32_3, l32_4, l32_20, l32_47, l32_51, l32_64, l32_200, l32_166300, d', c', b1])
    · have d' : p ≤ 20 := by omega
      by_cases y0 : yv < 0
      · rw [pz_n y0, if_neg (by omega), if_pos (Or.inr y0)]
        obtain ⟨b1, b2⟩ := T 1
        refine ⟨_, ?_, b2⟩
        have y1 := (i32neg y0 (k := 64) (by omega)).2.2.2
        have y2 := (i32neg y0 (k := 0) (by omega)).2.2.1
        have y3 : yv < Int32.ofNat 0 := y0
        have y4 := (i32neg y0 (k := p) hp).2.1
        repeat ((first | unfold mf_330 | unfold mf_330_0 | unfold mf_330_9 | unfold mf_330_14 | unfold mf_330_16 | unfold mf_330_19 | unfold mf_330_23 | unfold mf_330_24 | unfold mf_330_31 | unfold mf_330_36 | unfold mf_330_42 | unfold mf_330_46 | unfold mf_330_50 | unfold mf_330_62 | unfold mf_330_66 | unfold mf_330_67 | unfold mf_330_74 | unfold mf_330_78 | unfold mf_330_79 | unfold mf_330_81 | unfold mf_330_86 | unfold mf_330_94 | unfold mf_330_99 | unfold mf_330_103 | unfold mf_330_104 | unfold mf_330_112 | unfold mf_330_119 | unfold mf_330_122 | unfold mf_330_127 | unfold mf_330_147 | unfold mf_330_151 | unfold mf_330_152 | unfold mf_330_161 | unfold mf_330_168 | unfold mf_330_173 | unfold mf_330_174 | unfold mf_330_184 | unfold mf_330_189 | unfold mf_330_191 | unfold mf_330_199 | unfold mf_330_204 | unfold mf_330_212 | unfold mf_330_216 | unfold mf_330_217 | unfold mf_330_219 | unfold mf_330_224 | unfold mf_330_229 | unfold mf_330_235 | unfold mf_330_239 | unfold mf_330_240 | unfold mf_330_247 | unfold mf_330_248 | unfold mf_330_259 | unfold mf_330_262 | unfold mf_330_268 | unfold mf_330_275 | unfold mf_330_280 | unfold mf_330_281 | unfold mf_330_284 | unfold mf_330_290 | unfold mf_330_296 | unfold mf_330_300 | unfold mf_330_301 | unfold mf_330_306 | unfold mf_330_307 | unfold mf_330_312 | unfold mf_330_316 | unfold mf_330_321 | unfold mf_330_326 | unfold mf_330_333 | unfold mf_330_345 | unfold mf_330_349 | unfold mf_330_360 | unfold mf_330_363 | unfold mf_330_369 | unfold mf_330_375 | unfold mf_330_382); try simp (disch := omega) only [ev_S, ev_P, ↓reduceIte, Nat.reduceEqDiff, Nat.reduceLeDiff, Nat.reduceAdd, Nat.reduceMul, Nat.reduceSub, reduceCtorEq, l32_0, l32_1, l32_2, l32_3, l32_4, l32_20, l32_47, l32_51, l32_64, l32_200, l32_166300, d', y1, y2, y3, y4, b1])
      · obtain ⟨q, hq, eq⟩ := i32nn y0
        subst eq
        rw [pz_o hq]
        have hpq : Int32.toInt64 (Int32.ofNat p) * Int32.toInt64 (Int32.ofNat q) = Int64.ofNat (p * q) := by
          rw [i64of32 hp, i64of32 hq, Int64.ofNat_mul]
        by_cases c : 64 < q
        · rw [if_pos (Or.inr (Or.inl c))]
          obtain ⟨b1, b2⟩ := T 2
          refine ⟨_, ?_, b2⟩
          have c' : ¬ q ≤ p := by omega
          repeat ((first | unfold mf_330 | unfold mf_330_0 | unfold mf_330_9 | unfold mf_330_14 | unfold mf_330_16 | unfold mf_330_19 | unfold mf_330_23 | unfold mf_330_24 | unfold mf_330_31 | unfold mf_330_36 | unfold mf_330_42 | unfold mf_330_46 | unfold mf_330_50 | unfold mf_330_62 | unfold mf_330_66 | unfold mf_330_67 | unfold mf_330_74 | unfold mf_330_78 | unfold mf_330_79 | unfold mf_330_81 | unfold mf_330_86 | unfold mf_330_94 | unfold mf_330_99 | unfold mf_330_103 | unfold mf_330_104 | unfold mf_330_112 | unfold mf_330_119 | unfold mf_330_122 | unfold mf_330_127 | unfold mf_330_147 | unfold mf_330_151 | unfold mf_330_152 | unfold mf_330_161 | unfold mf_330_168 | unfold mf_330_173 | unfold mf_330_174 | unfold mf_330_184 | unfold mf_330_189 | unfold mf_330_191 | unfold mf_330_199 | unfold mf_330_204 | unfold mf_330_212 | unfold mf_330_216 | unfold mf_330_217 | unfold mf_330_219 | unfold mf_330_224 | unfold mf_330_229 | unfold mf_330_235 | unfold mf_330_239 | unfold mf_330_240 | unfold mf_330_247 | unfold mf_330_248 | unfold mf_330_259 | unfold mf_330_262 | unfold mf_330_268 | unfold mf_330_275 | unfold mf_330_280 | unfold mf_330_281 | unfold mf_330_284 | unfold mf_330_290 | unfold mf_330_296 | unfold mf_330_300 | unfold mf_330_301 | unfold mf_330_306 | unfold mf_330_307 | unfold mf_330_312 | unfold mf_330_316 | unfold mf_330_321 | unfold mf_330_326 | unfold mf_330_333 | unfold mf_330_345 | unfold mf_330_349 | unfold mf_330_360 | unfold mf_330_363 | unfold mf_330_369 | unfold mf_330_375 | unfold mf_330_382); try simp (disch := omega) only [ev_S, ev_P, ↓reduceIte, Nat.reduceEqDiff, Nat.reduceLeDiff, Nat.reduceAdd, Nat.reduceMul, Nat.reduceSub, reduceCtorEq, l32_0, l32_1, l32_2, l32_3, l32_4, l32_20, l32_47, l32_51, l32_64, l32_200, l32_166300, d', c, c', b1])
        · have hmul : p * q ≤ 20 * 64 := Nat.mul_le_mul (by omega) (by omega)
          have hlg : (lg_cmp (Int64.ofNat (p * q)) 200 ≤ Int32.ofNat 0) = (p * q ≤ 200) := lg_le (b := 200) (by omega) (by omega)
          by_cases e : 200 < p * q
          · rw [if_pos (Or.inr (Or.inr e))]
            obtain ⟨b1, b2⟩ := T 2
            refine ⟨_, ?_, b2⟩
            have e' : ¬ p * q ≤ 200 := by omega
            by_cases c' : q ≤ p
            · repeat ((first | unfold mf_330 | unfold mf_330_0 | unfold mf_330_9 | unfold mf_330_14 | unfold mf_330_16 | unfold mf_330_19 | unfold mf_330_23 | unfold mf_330_24 | unfold mf_330_31 | unfold mf_330_36 | unfold mf_330_42 | unfold mf_330_46 | unfold mf_330_50 | unfold mf_330_62 | unfold mf_330_66 | unfold mf_330_67 | unfold mf_330_74 | unfold mf_330_78 | unfold mf_330_79 | unfold mf_330_81 | unfold mf_330_86 | unfold mf_330_94 | unfold mf_330_99 | unfold mf_330_103 | unfold mf_330_104 | unfold mf_330_112 | unfold mf_330_119 | unfold mf_330_122 | unfold mf_330_127 | unfold mf_330_147 | unfold mf_330_151 | unfold mf_330_152 | unfold mf_330_161 | unfold mf_330_168 | unfold mf_330_173 | unfold mf_330_174 | unfold mf_330_184 | unfold mf_330_189 | unfold mf_330_191 | unfold mf_330_199 | unfold mf_330_204 | unfold mf_330_212 | unfold mf_330_216 | unfold mf_330_217 | unfold mf_330_219 | unfold mf_330_224 | unfold mf_330_229 | unfold mf_330_235 | unfold mf_330_239 | unfold mf_330_240 | unfold mf_330_247 | unfold mf_330_248 | unfold mf_330_259 | unfold mf_330_262 | unfold mf_330_268 | unfold mf_330_275 | unfold mf_330_280 | unfold mf_330_281 | unfold mf_330_284 | unfold mf_330_290 | unfold mf_330_296 | unfold mf_330_300 | unfold mf_330_301 | unfold mf_330_306 | unfold mf_330_307 | unfold mf_330_312 | unfold mf_330_316 | unfold mf_330_321 | unfold mf_330_326 | unfold mf_330_333 | unfold mf_330_345 | unfold mf_330_349 | unfold mf_330_360 | unfold mf_330_363 | unfold mf_330_369 | unfold mf_330_375 | unfold mf_330_382); try simp (disch := omega) only [ev_S, ev_P, ↓reduceIte, Nat.reduceEqDiff, Nat.reduceLeDiff, Nat.reduceAdd, Nat.reduceMul, Nat.reduceSub, reduceCtorEq, l32_0, l32_1, l32_2, l32_3, l32_4, l32_20, l32_47, l32_51, l32_64, l32_200, l32_166300, d', c, hpq, hlg, e', c', b1])
            · repeat ((first | unfold mf_330 | unfold mf_330_0 | unfold mf_330_9 | unfold mf_330_14 | unfold mf_330_16 | unfold mf_330_19 | unfold mf_330_23 | unfold mf_330_24 | unfold mf_330_31 | unfold mf_330_36 | unfold mf_330_42 | unfold mf_330_46 | unfold mf_330_50 | unfold mf_330_62 | unfold mf_330_66 | unfold mf_330_67 | unfold mf_330_74 | unfold mf_330_78 | unfold mf_330_79 | unfold mf_330_81 | unfold mf_330_86 | unfold mf_330_94 | unfold mf_330_99 | unfold mf_330_103 | unfold mf_330_104 | unfold mf_330_112 | unfold mf_330_119 | unfold mf_330_122 | unfold mf_330_127 | unfold mf_330_147 | unfold mf_330_151 | unfold mf_330_152 | unfold mf_330_161 | unfold mf_330_168 | unfold mf_330_173 | unfold mf_330_174 | unfold mf_330_184 | unfold mf_330_189 | unfold mf_330_191 | unfold mf_330_199 | unfold mf_330_204 | unfold mf_330_212 | unfold mf_330_216 | unfold mf_330_217 | unfold mf_330_219 | unfold mf_330_224 | unfold mf_330_229 | unfold mf_330_235 | unfold mf_330_239 | unfold mf_330_240 | unfold mf_330_247 | unfold mf_330_248 | unfold mf_330_259 | unfold mf_330_262 | unfold mf_330_268 | unfold mf_330_275 | unfold mf_330_280 | unfold mf_330_281 | unfold mf_330_284 | unfold mf_330_290 | unfold mf_330_296 | unfold mf_330_300 | unfold mf_330_301 | unfold mf_330_306 | unfold mf_330_307 | unfold mf_330_312 | unfold mf_330_316 | unfold mf_330_321 | unfold mf_330_326 | unfold mf_330_333 | unfold mf_330_345 | unfold mf_330_349 | unfold mf_330_360 | unfold mf_330_363 | unfold mf_330_369 | unfold mf_330_375 | unfold mf_330_382); try simp (disch := omega) only [ev_S, ev_P, ↓reduceIte, Nat.reduceEqDiff, Nat.reduceLeDiff, Nat.reduceAdd, Nat.reduceMul, Nat.reduceSub, reduceCtorEq, l32_0, l32_1, l32_2, l32_3, l32_4, l32_20, l32_47, l32_51, l32_64, l32_200, l32_166300, d', c, hpq, hlg, e', c', b1])
          · have e' : p * q ≤ 200 := by omega
            rw [if_neg (by omega), if_neg (fun z => z.elim z0 y0)]
            have E1 : mf_330 N (Int32.ofNat 3) (Int32.ofNat p) (Int32.ofNat q) (Int32.ofNat n) s = mf_330_L7 N N 0 (Int32.ofNat 3) (Int32.ofNat p) (Int32.ofNat q) (Int32.ofNat n) (Int32.ofNat p) (Int32.ofNat 0) (mI s 51 (Int32.ofNat n)) := by
              by_cases c' : q ≤ p
              · repeat ((first | unfold mf_330 | unfold mf_330_0 | unfold mf_330_9 | unfold mf_330_14 | unfold mf_330_16 | unfold mf_330_19 | unfold mf_330_23 | unfold mf_330_24 | unfold mf_330_31 | unfold mf_330_36 | unfold mf_330_42 | unfold mf_330_46 | unfold mf_330_50 | unfold mf_330_62 | unfold mf_330_66 | unfold mf_330_67 | unfold mf_330_74 | unfold mf_330_78 | unfold mf_330_79 | unfold mf_330_81 | unfold mf_330_86 | unfold mf_330_94 | unfold mf_330_99 | unfold mf_330_103 | unfold mf_330_104 | unfold mf_330_112 | unfold mf_330_119 | unfold mf_330_122 | unfold mf_330_127 | unfold mf_330_147 | unfold mf_330_151 | unfold mf_330_152 | unfold mf_330_161 | unfold mf_330_168 | unfold mf_330_173 | unfold mf_330_174 | unfold mf_330_184 | unfold mf_330_189 | unfold mf_330_191 | unfold mf_330_199 | unfold mf_330_204 | unfold mf_330_212 | unfold mf_330_216 | unfold mf_330_217 | unfold mf_330_219 | unfold mf_330_224 | unfold mf_330_229 | unfold mf_330_235 | unfold mf_330_239 | unfold mf_330_240 | unfold mf_330_247 | unfold mf_330_248 | unfold mf_330_259 | unfold mf_330_262 | unfold mf_330_268 | unfold mf_330_275 | unfold mf_330_280 | unfold mf_330_281 | unfold mf_330_284 | unfold mf_330_290 | unfold mf_330_296 | unfold mf_330_300 | unfold mf_330_301 | unfold mf_330_306 | unfold mf_330_307 | unfold mf_330_312 | unfold mf_330_316 | unfold mf_330_321 | unfold mf_330_326 | unfold mf_330_333 | unfold mf_330_345 | unfold mf_330_349 | unfold mf_330_360 | unfold mf_330_363 | unfold mf_330_369 | unfold mf_330_375 | unfold mf_330_382); try simp (disch := omega) only [ev_S, ev_P, ↓reduceIte, Nat.reduceEqDiff, Nat.reduceLeDiff, Nat.reduceAdd, Nat.reduceMul, Nat.reduceSub, reduceCtorEq, l32_0, l32_1, l32_2, l32_3, l32_4, l32_20, l32_47, l32_51, l32_64, l32_200, l32_166300, d', c, hpq, hlg, e', c'])
              · repeat ((first | unfold mf_330 | unfold mf_330_0 | unfold mf_330_9 | unfold mf_330_14 | unfold mf_330_16 | unfold mf_330_19 | unfold mf_330_23 | unfold mf_330_24 | unfold mf_330_31 | unfold mf_330_36 | unfold mf_330_42 | unfold mf_330_46 | unfold mf_330_50 | unfold mf_330_62 | unfold mf_330_66 | unfold mf_330_67 | unfold mf_330_74 | unfold mf_330_78 | unfold mf_330_79 | unfold mf_330_81 | unfold mf_330_86 | unfold mf_330_94 | unfold mf_330_99 | unfold mf_330_103 | unfold mf_330_104 | unfold mf_330_112 | unfold mf_330_119 | unfold mf_330_122 | unfold mf_330_127 | unfold mf_330_147 | unfold mf_330_151 | unfold mf_330_152 | unfold mf_330_161 | unfold mf_330_168 | unfold mf_330_173 | unfold mf_330_174 | unfold mf_330_184 | unfold mf_330_189 | unfold mf_330_191 | unfold mf_330_199 | unfold mf_330_204 | unfold mf_330_212 | unfold mf_330_216 | unfold mf_330_217 | unfold mf_330_219 | unfold mf_330_224 | unfold mf_330_229 | unfold mf_330_235 | unfold mf_330_239 | unfold mf_330_240 | unfold mf_330_247 | unfold mf_330_248 | unfold mf_330_259 | unfold mf_330_262 | unfold mf_330_268 | unfold mf_330_275 | unfold mf_330_280 | unfold mf_330_281 | unfold mf_330_284 | unfold mf_330_290 | unfold mf_330_296 | unfold mf_330_300 | unfold mf_330_301 | unfold mf_330_306 | unfold mf_330_307 | unfold mf_330_312 | unfold mf_330_316 | unfold mf_330_321 | unfold mf_330_326 | unfold mf_330_333 | unfold mf_330_345 | unfold mf_330_349 | unfold mf_330_360 | unfold mf_330_363 | unfold mf_330_369 | unfold mf_330_375 | unfold mf_330_382); try simp (disch := omega) only [ev_S, ev_P, ↓reduceIte, Nat.reduceEqDiff, Nat.reduceLeDiff, Nat.reduceAdd, Nat.reduceMul, Nat.reduceSub, reduceCtorEq, l32_0, l32_1, l32_2, l32_3, l32_4, l32_20, l32_47, l32_51, l32_64, l32_200, l32_166300, d', c, hpq, hlg, e', c'])
            rw [E1]
            have hle : ∀ i, i ≤ p → i * q ≤ 200 := fun i hi => Nat.le_trans (Nat.mul_le_mul_right q hi) e'
            refine lp (fun F i (s' : mS) => mf_330_L7 N F 0 (Int32.ofNat 3) (Int32.ofNat p) (Int32.ofNat q) (Int32.ofNat n) (Int32.ofNat p) (Int32.ofNat i) s') p (fun i s' => rG s s' n f (f + (2 * (List.replicate i (zer q)).length + ((List.replicate i (zer q)).map List.length).sum)) ((List.replicate i (zer q)).map nR)) (fun R => ∃ s', R = some (s', none) ∧ rE s s' n f m (ansM 2 ((List.replicate p (zer q)).map nR))) ?_ ?_ p 0 N _ (Nat.zero_add _) (by omega) G0
            · intro F i s2 hi G _
              left
              have hli : (List.replicate i (zer q)).length = i := List.length_replicate
              have hll : ((List.replicate i (zer q)).map nR).length = i := by rw [List.length_map, hli]
              have hzl : (zer q).length = q := List.length_replicate
              have hsi := hle i (by omega)
              have hs2 := rep_sum (q := i) (k := q)
              have n1 : ¬ p ≤ i := by omega
              have sp := G.1.1
              rw [hll] at sp
              obtain ⟨s3, z1, z2⟩ := r_zeros (N := N) (q := q) hN G (by rw [hll]; omega) hq
              obtain ⟨s4, w1, w2⟩ := rG.row (N := N) hN z2 (by rw [hll, hzl]; omega) (by rw [hzl]; omega)
              rw [hll] at w1
              rw [hzl] at w2
              refine ⟨s4, ?_, ?_⟩
              · rw [rep_s, List.map_append, List.map_append, List.length_append, List.sum_append]
                have e : f + (2 * ((List.replicate i (zer q)).length + [zer q].length) + (((List.replicate i (zer q)).map List.length).sum + ([zer q].map List.length).sum)) = f + (2 * (List.replicate i (zer q)).length + ((List.replicate i (zer q)).map List.length).sum) + 2 + q := by
                  show f + (2 * (_ + 1) + (_ + ((zer q).length + 0))) = _
                  rw [hzl]
                  omega
                rw [e]
                exact w2
              · show mf_330_326 N (mf_330_L7 N F) (Int32.ofNat 3) (Int32.ofNat p) (Int32.ofNat q) (Int32.ofNat n) (Int32.ofNat p) (Int32.ofNat i) s2 = _
                unfold mf_330_326 mf_330_333 mf_330_345 mf_330_360 mf_330_363 mf_330_369
                simp (disch := omega) only [ev_S, ev_P, ↓reduceIte, Nat.reduceEqDiff, Nat.reduceLeDiff, Nat.reduceAdd, Nat.reduceMul, Nat.reduceSub, reduceCtorEq, l32_0, l32_1, l32_2, l32_3, l32_4, l32_5, l32_6, l32_7, l32_8, l32_9, l32_10, l32_11, l32_12, l32_13, l32_14, l32_15, l32_16, l32_17, l32_18, l32_19, l32_20, l32_21, l32_22, l32_23, l32_24, l32_25, l32_26, l32_27, l32_28, l32_29, l32_33, l32_40, l32_41, l32_44, l32_45, l32_59, l32_61, l32_91, l32_93, l32_123, l32_125, n1, sp, z1, w1]
            · intro F s2 G
              have hs2 := rep_sum (q := p) (k := q)
              have hlp : (List.replicate p (zer q)).length = p := List.length_replicate
              obtain ⟨s3, b1, b2⟩ := rA.bTab (N := N) hN H G (fun r hr => by
                rw [(List.mem_replicate.mp hr).2]
                show (zer q).length ≤ 64
                rw [show (zer q).length = q from List.length_replicate]
                omega) (by rw [hlp]; omega) (by rw [hlp]; omega)
              refine ⟨s3, ?_, b2⟩
              show mf_330_326 N (mf_330_L7 N F) (Int32.ofNat 3) (Int32.ofNat p) (Int32.ofNat q) (Int32.ofNat n) (Int32.ofNat p) (Int32.ofNat p) s2 = _
              unfold mf_330_326 mf_330_375 mf_330_382
              simp (disch := omega) only [ev_S, ev_P, ↓reduceIte, Nat.reduceEqDiff, Nat.reduceLeDiff, Nat.reduceAdd, Nat.reduceMul, Nat.reduceSub, reduceCtorEq, l32_0, l32_1, l32_2, l32_3, l32_4, l32_5, l32_6, l32_7, l32_8, l32_9, l32_10, l32_11, l32_12, l32_13, l32_14, l32_15, l32_16, l32_17, l32_18, l32_19, l32_20, l32_21, l32_22, l32_23, l32_24, l32_25, l32_26, l32_27, l32_28, l32_29, l32_33, l32_40, l32_41, l32_44, l32_45, l32_59, l32_61, l32_91, l32_93, l32_123, l32_125, b1]
end MK3
