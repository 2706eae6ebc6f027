/-! ===== PURE: run (36): rows ===== -/
theorem pz_lt {z : Int32} : pz z < 2147483648 := by
  unfold pz
  by_cases h : z < 0
  · rw [if_pos h]
    omega
  · obtain ⟨p, hp, rfl⟩ := i32nn h
    rw [if_neg h, ev_S.1 hp]
    exact hp
theorem take_any {α : Type} {r : List α} {p : α → Bool} {i : Nat} (hi : i < r.length) : (r.take (i + 1)).any p = ((r.take i).any p || p r[i]) := by
  rw [List.take_succ_eq_append_getElem hi, List.any_append, List.any_cons, List.any_nil, Bool.or_false]
theorem any_mem {α : Type} {r : List α} {p : α → Bool} {i : Nat} (hi : i < r.length) (h : p r[i] = true) : r.any p = true := List.any_eq_true.mpr ⟨_, List.getElem_mem hi, h⟩
theorem take_sum_s {α : Type} {r : List α} {g : α → Nat} {i : Nat} (hi : i < r.length) : ((r.take (i + 1)).map g).sum = ((r.take i).map g).sum + g r[i] := by
  rw [take_map_s hi, List.sum_append]
  show _ + (g r[i] + 0) = _
  omega
theorem zer_len {n : Nat} : (zer n).length = n := List.length_replicate
/-- a least of some INTS and 0 -/
def lst0 (z : Int32) (b : Bool) : Prop := (z < 0 ↔ b = true) ∧ (¬ z < 0 → z = Int32.ofNat 0)
theorem lst0_s {z y : Int32} {b : Bool} (h : lst0 z b) : lst0 (if y < z then y else z) (b || decide (y < 0)) := by
  obtain ⟨h1, h2⟩ := h
  by_cases c : y < z
  · rw [if_pos c]
    by_cases d : z < 0
    · rw [h1.mp d, Bool.true_or]
      exact ⟨⟨fun _ => rfl, fun _ => Int32.lt_trans c d⟩, fun q => absurd (Int32.lt_trans c d) q⟩
    · have e := h2 d
      have hb : b = false := by
        cases hb : b with
        | false => rfl
        | true => exact absurd (h1.mpr hb) d
      rw [e] at c
      have c : y < 0 := c
      rw [hb, Bool.false_or, decide_eq_true c]
      exact ⟨⟨fun _ => rfl, fun _ => c⟩, fun q => absurd c q⟩
  · rw [if_neg c]
    by_cases d : z < 0
    · rw [h1.mp d, Bool.true_or]
      exact ⟨⟨fun _ => rfl, fun _ => d⟩, fun q => absurd d q⟩
    · have e := h2 d
      have hb : b = false := by
        cases hb : b with
        | false => rfl
        | true => exact absurd (h1.mpr hb) d
      rw [e] at c
      have c : ¬ y < 0 := c
      rw [hb, Bool.false_or, decide_eq_false c]
      exact ⟨⟨fun q => absurd q d, fun q => by cases q⟩, fun _ => e⟩
section RWS
variable {N : Nat} {X : Nat → Option zz_C} {s s' : mS} {t t' : cS} {n f f' m q a u w : Nat} {x : Nod} {ys xs : List Nod} {xv yv : Int32} {vx : Int64}
theorem r_mk4 (hN : 170000 ≤ N) (H : rA s n f m ys) (La : LayN (s.2.2.1 47) (Rf f) a x) (h1 : kn x = 1) (wx : wfN x) : ∃ s', mf_330 N (Int32.ofNat 4) (Int32.ofNat a) yv (Int32.ofNat n) s = some (s', none) ∧ rE s s' n f m (ansW (rvN x)) := by
  have H' := H
  obtain ⟨-, H2, H3, H4, H5, H6, H7, H8, H9, H10⟩ := H'
  have G0 : rG s (mI s 51 (Int32.ofNat n)) n f f [] := rG.nil H2
  have Gs : rG s s n f f ys := H.g
  have T := fun k => rA.trb (N := N) H s vfr.rf rfl rfl rfl k
  have Lr := lay1 La h1
  have hr := rv_wf h1 wx
  have hlt := rowlt Lr
  have esz := kn1_sz h1
  have zz := Gs.size (N := N) La (by omega)
  rw [esz] at zz
  have SZ := fun s2 fx xs (G : rG s s2 n f fx xs) => rG.size (N := N) G La (by omega)
  rw [esz] at SZ
  generalize rvN x = r at *
  have E1 : mf_330 N (Int32.ofNat 4) (Int32.ofNat a) yv (Int32.ofNat n) s = mf_330_L27 N N 0 (Int32.ofNat 4) (Int32.ofNat a) yv (Int32.ofNat n) (Int32.ofNat 0) (bI (decide (20 < r.length))) (Int32.ofNat 0) (Int32.ofNat 0) s := by
    by_cases c : 20 < r.length
    · rw [decide_eq_true c]
      simp only [bI]
      have c' : ¬ r.length ≤ 20 := by omega
      by_cases d : a ≤ 20
      · repeat ((first | unfold mf_330 | unfold mf_330_0 | unfold mf_330_9 | unfold mf_330_14 | unfold mf_330_16 | unfold mf_330_19 | unfold mf_330_23 | unfold mf_330_24 | unfold mf_330_31 | unfold mf_330_36 | unfold mf_330_42 | unfold mf_330_46 | unfold mf_330_50 | unfold mf_330_62 | unfold mf_330_66 | unfold mf_330_67 | unfold mf_330_74 | unfold mf_330_78 | unfold mf_330_79 | unfold mf_330_81 | unfold mf_330_86 | unfold mf_330_94 | unfold mf_330_99 | unfold mf_330_103 | unfold mf_330_104 | unfold mf_330_112 | unfold mf_330_119 | unfold mf_330_122 | unfold mf_330_127 | unfold mf_330_147 | unfold mf_330_151 | unfold mf_330_152 | unfold mf_330_161 | unfold mf_330_168 | unfold mf_330_173 | unfold mf_330_174 | unfold mf_330_184 | unfold mf_330_189 | unfold mf_330_191 | unfold mf_330_199 | unfold mf_330_204 | unfold mf_330_212 | unfold mf_330_216 | unfold mf_330_217 | unfold mf_330_219 | unfold mf_330_224 | unfold mf_330_229 | unfold mf_330_235 | unfold mf_330_239 | unfold mf_330_240 | unfold mf_330_247 | unfold mf_330_248 | unfold mf_330_259 | unfold mf_330_262 | unfold mf_330_268 | unfold mf_330_275 | unfold mf_330_280 | unfold mf_330_281 | unfold mf_330_284 | unfold mf_330_290 | unfold mf_330_296 | unfold mf_330_300 | unfold mf_330_301 | unfold mf_330_306 | unfold mf_330_307 | unfold mf_330_312 | unfold mf_330_316 | unfold mf_330_321 | unfold mf_330_326 | unfold mf_330_333 | unfold mf_330_345 | unfold mf_330_349 | unfold mf_330_360 | unfold mf_330_363 | unfold mf_330_369 | unfold mf_330_375 | unfold mf_330_382); try simp (disch := omega) only [ev_S, ev_P, ↓reduceIte, Nat.reduceEqDiff, Nat.reduceLeDiff, Nat.reduceAdd, Nat.reduceMul, Nat.reduceSub, reduceCtorEq, l32_0, l32_1, l32_2, l32_3, l32_4, l32_20, l32_47, l32_51, l32_64, l32_200, l32_166300, zz, c', d])
      · repeat ((first | unfold mf_330 | unfold mf_330_0 | unfold mf_330_9 | unfold mf_330_14 | unfold mf_330_16 | unfold mf_330_19 | unfold mf_330_23 | unfold mf_330_24 | unfold mf_330_31 | unfold mf_330_36 | unfold mf_330_42 | unfold mf_330_46 | unfold mf_330_50 | unfold mf_330_62 | unfold mf_330_66 | unfold mf_330_67 | unfold mf_330_74 | unfold mf_330_78 | unfold mf_330_79 | unfold mf_330_81 | unfold mf_330_86 | unfold mf_330_94 | unfold mf_330_99 | unfold mf_330_103 | unfold mf_330_104 | unfold mf_330_112 | unfold mf_330_119 | unfold mf_330_122 | unfold mf_330_127 | unfold mf_330_147 | unfold mf_330_151 | unfold mf_330_152 | unfold mf_330_161 | unfold mf_330_168 | unfold mf_330_173 | unfold mf_330_174 | unfold mf_330_184 | unfold mf_330_189 | unfold mf_330_191 | unfold mf_330_199 | unfold mf_330_204 | unfold mf_330_212 | unfold mf_330_216 | unfold mf_330_217 | unfold mf_330_219 | unfold mf_330_224 | unfold mf_330_229 | unfold mf_330_235 | unfold mf_330_239 | unfold mf_330_240 | unfold mf_330_247 | unfold mf_330_248 | unfold mf_330_259 | unfold mf_330_262 | unfold mf_330_268 | unfold mf_330_275 | unfold mf_330_280 | unfold mf_330_281 | unfold mf_330_284 | unfold mf_330_290 | unfold mf_330_296 | unfold mf_330_300 | unfold mf_330_301 | unfold mf_330_306 | unfold mf_330_307 | unfold mf_330_312 | unfold mf_330_316 | unfold mf_330_321 | unfold mf_330_326 | unfold mf_330_333 | unfold mf_330_345 | unfold mf_330_349 | unfold mf_330_360 | unfold mf_330_363 | unfold mf_330_369 | unfold mf_330_375 | unfold mf_330_382); try simp (disch := omega) only [ev_S, ev_P, ↓reduceIte, Nat.reduceEqDiff, Nat.reduceLeDiff, Nat.reduceAdd, Nat.reduceMul, Nat.reduceSub, reduceCtorEq, l32_0, l32_1, l32_2, l32_3, l32_4, l32_20, l32_47, l32_51, l32_64, l32_200, l32_166300, zz, c', d])
    · rw [decide_eq_false c]
      simp only [bI]
      have c' : r.length ≤ 20 := by omega
      by_cases d : a ≤ 20
      · repeat ((first | unfold mf_330 | unfold mf_330_0 | unfold mf_330_9 | unfold mf_330_14 | unfold mf_330_16 | unfold mf_330_19 | unfold mf_330_23 | unfold mf_330_24 | unfold mf_330_31 | unfold mf_330_36 | unfold mf_330_42 | unfold mf_330_46 | unfold mf_330_50 | unfold mf_330_62 | unfold mf_330_66 | unfold mf_330_67 | unfold mf_330_74 | unfold mf_330_78 | unfold mf_330_79 | unfold mf_330_81 | unfold mf_330_86 | unfold mf_330_94 | unfold mf_330_99 | unfold mf_330_103 | unfold mf_330_104 | unfold mf_330_112 | unfold mf_330_119 | unfold mf_330_122 | unfold mf_330_127 | unfold mf_330_147 | unfold mf_330_151 | unfold mf_330_152 | unfold mf_330_161 | unfold mf_330_168 | unfold mf_330_173 | unfold mf_330_174 | unfold mf_330_184 | unfold mf_330_189 | unfold mf_330_191 | unfold mf_330_199 | unfold mf_330_204 | unfold mf_330_212 | unfold mf_330_216 | unfold mf_330_217 | unfold mf_330_219 | unfold mf_330_224 | unfold mf_330_229 | unfold mf_330_235 | unfold mf_330_239 | unfold mf_330_240 | unfold mf_330_247 | unfold mf_330_248 | unfold mf_330_259 | unfold mf_330_262 | unfold mf_330_268 | unfold mf_330_275 | unfold mf_330_280 | unfold mf_330_281 | unfold mf_330_284 | unfold mf_330_290 | unfold mf_330_296 | unfold mf_330_300 | unfold mf_330_301 | unfold mf_330_306 | unfold mf_330_307 | unfold mf_330_312 | unfold mf_330_316 | unfold mf_330_321 | unfold mf_330_326 | unfold mf_330_333 | unfold mf_330_345 | unfold mf_330_349 | unfold mf_330_360 | unfold mf_330_363 | unfold mf_330_369 | unfold mf_330_375 | unfold mf_330_382); try simp (disch := omega) only [ev_S, ev_P, ↓reduceIte, Nat.reduceEqDiff, Nat.reduceLeDiff, Nat.reduceAdd, Nat.reduceMul, Nat.reduceSub, reduceCtorEq, l32_0, l32_1, l32_2, l32_3, l32_4, l32_20, l32_47, l32_51, l32_64, l32_200, l32_166300, zz, c', d])
      · repeat ((first | unfold mf_330 | unfold mf_330_0 | unfold mf_330_9 | unfold mf_330_14 | unfold mf_330_16 | unfold mf_330_19 | unfold mf_330_23 | unfold mf_330_24 | unfold mf_330_31 | unfold mf_330_36 | unfold mf_330_42 | unfold mf_330_46 | unfold mf_330_50 | unfold mf_330_62 | unfold mf_330_66 | unfold mf_330_67 | unfold mf_330_74 | unfold mf_330_78 | unfold mf_330_79 | unfold mf_330_81 | unfold mf_330_86 | unfold mf_330_94 | unfold mf_330_99 | unfold mf_330_103 | unfold mf_330_104 | unfold mf_330_112 | unfold mf_330_119 | unfold mf_330_122 | unfold mf_330_127 | unfold mf_330_147 | unfold mf_330_151 | unfold mf_330_152 | unfold mf_330_161 | unfold mf_330_168 | unfold mf_330_173 | unfold mf_330_174 | unfold mf_330_184 | unfold mf_330_189 | unfold mf_330_191 | unfold mf_330_199 | unfold mf_330_204 | unfold mf_330_212 | unfold mf_330_216 | unfold mf_330_217 | unfold mf_330_219 | unfold mf_330_224 | unfold mf_330_229 | unfold mf_330_235 | unfold mf_330_239 | unfold mf_330_240 | unfold mf_330_247 | unfold mf_330_248 | unfold mf_330_259 | unfold mf_330_262 | unfold mf_330_268 | unfold mf_330_275 | unfold mf_330_280 | unfold mf_330_281 | unfold mf_330_284 | unfold mf_330_290 | unfold mf_330_296 | unfold mf_330_300 | unfold mf_330_301 | unfold mf_330_306 | unfold mf_330_307 | unfold mf_330_312 | unfold mf_330_316 | unfold mf_330_321 | unfold mf_330_326 | unfold mf_330_333 | unfold mf_330_345 | unfold mf_330_349 | unfold mf_330_360 | unfold mf_330_363 | unfold mf_330_369 | unfold mf_330_375 | unfold mf_330_382); try simp (disch := omega) only [ev_S, ev_P, ↓reduceIte, Nat.reduceEqDiff, Nat.reduceLeDiff, Nat.reduceAdd, Nat.reduceMul, Nat.reduceSub, reduceCtorEq, l32_0, l32_1, l32_2, l32_3, l32_4, l32_20, l32_47, l32_51, l32_64, l32_200, l32_166300, zz, c', d])
  have hsum : ∀ i, (∀ z ∈ r.take i, pz z ≤ 64) → ((r.take i).map pz).sum ≤ 64 * i := fun i h => by
    have : ∀ l : List Int32, (∀ z ∈ l, pz z ≤ 64) → (l.map pz).sum ≤ 64 * l.length := fun l => by
      induction l with
      | nil => intro _; exact Nat.le_refl _
      | cons z l ih =>
        intro hl
        have h1 := hl z List.mem_cons_self
        have h2 := ih (fun y hy => hl y (List.mem_cons_of_mem _ hy))
        rw [List.map_cons, List.sum_cons, List.length_cons]
        omega
    have h3 := this (r.take i) h
    rw [List.length_take] at h3
    omega
  have E2 : mf_330_L27 N N 0 (Int32.ofNat 4) (Int32.ofNat a) yv (Int32.ofNat n) (Int32.ofNat 0) (bI (decide (20 < r.length))) (Int32.ofNat 0) (Int32.ofNat 0) s = if 20 < r.length ∨ (r.any fun z => decide (64 < pz z)) = true ∨ 200 < (r.map pz).sum then mf_330_229 N (Int32.ofNat 1) s else if (r.any fun z => decide (z < 0)) = true then mf_330_229 N (Int32.ofNat 0) s else mf_330_248 N (Int32.ofNat 4) (Int32.ofNat a) yv (Int32.ofNat n) s := by
    have EX : ∀ x5 x7, mf_330_199 N (Int32.ofNat 4) (Int32.ofNat a) yv (Int32.ofNat n) x5 (Int32.ofNat 1) x7 s = mf_330_229 N (Int32.ofNat 1) s := fun x5 x7 => by
      unfold mf_330_199 mf_330_212 mf_330_217 mf_330_219
      simp (disch := omega) only [ev_S, ev_P, ↓reduceIte, Nat.reduceEqDiff, Nat.reduceLeDiff, Nat.reduceAdd, Nat.reduceMul, Nat.reduceSub, reduceCtorEq, l32_0, l32_1, l32_2, l32_3, l32_4, l32_5, l32_6, l32_7, l32_8, l32_9, l32_10, l32_11, l32_12, l32_13, l32_14, l32_15, l32_16, l32_17, l32_18, l32_19, l32_20, l32_21, l32_22, l32_23, l32_24, l32_25, l32_26, l32_27, l32_28, l32_29, l32_33, l32_40, l32_41, l32_44, l32_45, l32_59, l32_61, l32_91, l32_93, l32_123, l32_125]
    refine lp (fun F i (c : Int32 × Bool × Nat) => mf_330_L27 N F 0 (Int32.ofNat 4) (Int32.ofNat a) yv (Int32.ofNat n) c.1 (bI c.2.1) (Int32.ofNat c.2.2) (Int32.ofNat i) s) r.length (fun i c => (c.2.1 = true → 20 < r.length ∨ (r.any fun z => decide (64 < pz z)) = true) ∧ (c.2.1 = false → r.length ≤ 20 ∧ (∀ z ∈ r.take i, pz z ≤ 64) ∧ c.2.2 = ((r.take i).map pz).sum ∧ lst0 c.1 ((r.take i).any fun z => decide (z < 0)))) (fun R => R = if 20 < r.length ∨ (r.any fun z => decide (64 < pz z)) = true ∨ 200 < (r.map pz).sum then mf_330_229 N (Int32.ofNat 1) s else if (r.any fun z => decide (z < 0)) = true then mf_330_229 N (Int32.ofNat 0) s else mf_330_248 N (Int32.ofNat 4) (Int32.ofNat a) yv (Int32.ofNat n) s) ?_ ?_ r.length 0 N (Int32.ofNat 0, decide (20 < r.length), 0) (Nat.zero_add _) (by omega) ⟨fun h => Or.inl (decide_eq_true_iff.mp h), fun h => ⟨Nat.not_lt.mp (decide_eq_false_iff_not.mp h), fun z hz => absurd hz List.not_mem_nil, rfl, ⟨fun q => absurd q (show ¬ Int32.ofNat 0 < 0 by decide), fun q => (by cases q)⟩, fun _ => rfl⟩⟩
    · intro F i c hi hP _
      obtain ⟨l0, g0, a0⟩ := c
      obtain ⟨P1, P2⟩ := hP
      have n1 : ¬ r.length ≤ i := by omega
      cases hg : g0 with
      | true =>
        right
        have P1 := P1 hg
        rw [if_pos (P1.elim Or.inl (fun z => Or.inr (Or.inl z)))]
        show mf_330_112 N (mf_330_L27 N F) (Int32.ofNat 4) (Int32.ofNat a) yv (Int32.ofNat n) l0 (bI true) (Int32.ofNat a0) (Int32.ofNat i) s = _
        have EX := EX l0 (Int32.ofNat a0)
        simp only [bI]
        unfold mf_330_112 mf_330_119 mf_330_122
        simp (disch := omega) only [ev_S, ev_P, ↓reduceIte, Nat.reduceEqDiff, Nat.reduceLeDiff, Nat.reduceAdd, Nat.reduceMul, Nat.reduceSub, reduceCtorEq, l32_0, l32_1, l32_2, l32_3, l32_4, l32_5, l32_6, l32_7, l32_8, l32_9, l32_10, l32_11, l32_12, l32_13, l32_14, l32_15, l32_16, l32_17, l32_18, l32_19, l32_20, l32_21, l32_22, l32_23, l32_24, l32_25, l32_26, l32_27, l32_28, l32_29, l32_33, l32_40, l32_41, l32_44, l32_45, l32_59, l32_61, l32_91, l32_93, l32_123, l32_125, zz, n1, EX]
      | false =>
        left
        obtain ⟨Q1, Q2, Q3, Q4⟩ := P2 hg
        have Q3 : a0 = _ := Q3
        have cc := Gs.cell Lr hi
        have hs := hsum i Q2
        rw [← Q3] at hs
        -- one number
        have st : mf_330_112 N (mf_330_L27 N F) (Int32.ofNat 4) (Int32.ofNat a) yv (Int32.ofNat n) l0 (bI false) (Int32.ofNat a0) (Int32.ofNat i) s = mf_330_L27 N F 0 (Int32.ofNat 4) (Int32.ofNat a) yv (Int32.ofNat n) (if r[i] < l0 then r[i] else l0) (bI (decide (64 < pz r[i]))) (Int32.ofNat (a0 + if 64 < pz r[i] then 0 else pz r[i])) (Int32.ofNat (i + 1)) s := by
          simp only [bI]
          have tail : ∀ g y1, mf_330_174 N (mf_330_L27 N F) (Int32.ofNat 4) (Int32.ofNat a) yv (Int32.ofNat n) l0 g (Int32.ofNat i) r[i] (Int32.ofNat a0) (Int32.ofNat y1) s = mf_330_L27 N F 0 (Int32.ofNat 4) (Int32.ofNat a) yv (Int32.ofNat n) (if r[i] < l0 then r[i] else l0) g (Int32.ofNat (a0 + y1)) (Int32.ofNat (i + 1)) s := fun g y1 => by
            unfold mf_330_174
            by_cases c : r[i] < l0
            · rw [if_pos c, if_neg (Int32.not_le.mpr c)]
              unfold mf_330_184 mf_330_191
              simp (disch := omega) only [ev_S, ev_P, ↓reduceIte, Nat.reduceEqDiff, Nat.reduceLeDiff, Nat.reduceAdd, Nat.reduceMul, Nat.reduceSub, reduceCtorEq, l32_0, l32_1, l32_2, l32_3, l32_4, l32_5, l32_6, l32_7, l32_8, l32_9, l32_10, l32_11, l32_12, l32_13, l32_14, l32_15, l32_16, l32_17, l32_18, l32_19, l32_20, l32_21, l32_22, l32_23, l32_24, l32_25, l32_26, l32_27, l32_28, l32_29, l32_33, l32_40, l32_41, l32_44, l32_45, l32_59, l32_61, l32_91, l32_93, l32_123, l32_125]
            · rw [if_neg c, if_pos (Int32.not_lt.mp c)]
              unfold mf_330_189 mf_330_191
              simp (disch := omega) only [ev_S, ev_P, ↓reduceIte, Nat.reduceEqDiff, Nat.reduceLeDiff, Nat.reduceAdd, Nat.reduceMul, Nat.reduceSub, reduceCtorEq, l32_0, l32_1, l32_2, l32_3, l32_4, l32_5, l32_6, l32_7, l32_8, l32_9, l32_10, l32_11, l32_12, l32_13, l32_14, l32_15, l32_16, l32_17, l32_18, l32_19, l32_20, l32_21, l32_22, l32_23, l32_24, l32_25, l32_26, l32_27, l32_28, l32_29, l32_33, l32_40, l32_41, l32_44, l32_45, l32_59, l32_61, l32_91, l32_93, l32_123, l32_125]
          by_cases z0 : r[i] < 0
          · rw [pz_n z0, decide_eq_false (show ¬ 64 < 0 by omega), if_neg (show ¬ 64 < 0 by omega)]
            have q1 := (i32neg z0 (k := 64) (by omega)).2.1
            have q2 := (i32neg z0 (k := 0) (by omega)).2.1
            have tl := tail (Int32.ofNat 0) 0
            unfold mf_330_112 mf_330_119 mf_330_122 mf_330_127 mf_330_151 mf_330_152 mf_330_173
            simp (disch := omega) only [ev_S, ev_P, ↓reduceIte, Nat.reduceEqDiff, Nat.reduceLeDiff, Nat.reduceAdd, Nat.reduceMul, Nat.reduceSub, reduceCtorEq, l32_0, l32_1, l32_2, l32_3, l32_4, l32_5, l32_6, l32_7, l32_8, l32_9, l32_10, l32_11, l32_12, l32_13, l32_14, l32_15, l32_16, l32_17, l32_18, l32_19, l32_20, l32_21, l32_22, l32_23, l32_24, l32_25, l32_26, l32_27, l32_28, l32_29, l32_33, l32_40, l32_41, l32_44, l32_45, l32_59, l32_61, l32_91, l32_93, l32_123, l32_125, zz, n1, cc, q1, q2, tl, l32_64]
          · obtain ⟨p, hp, ep⟩ := i32nn z0
            rw [ep] at cc tail ⊢
            rw [pz_o hp]
            by_cases c : 64 < p
            · rw [decide_eq_true c, if_pos c]
              have tl := tail (Int32.ofNat 1) 0
              have c' : ¬ p ≤ 64 := by omega
              have c0 : ¬ p ≤ 0 := by omega
              unfold mf_330_112 mf_330_119 mf_330_122 mf_330_127 mf_330_147 mf_330_152 mf_330_161 mf_330_173
              simp (disch := omega) only [ev_S, ev_P, ↓reduceIte, Nat.reduceEqDiff, Nat.reduceLeDiff, Nat.reduceAdd, Nat.reduceMul, Nat.reduceSub, reduceCtorEq, l32_0, l32_1, l32_2, l32_3, l32_4, l32_5, l32_6, l32_7, l32_8, l32_9, l32_10, l32_11, l32_12, l32_13, l32_14, l32_15, l32_16, l32_17, l32_18, l32_19, l32_20, l32_21, l32_22, l32_23, l32_24, l32_25, l32_26, l32_27, l32_28, l32_29, l32_33, l32_40, l32_41, l32_44, l32_45, l32_59, l32_61, l32_91, l32_93, l32_123, l32_125, zz, n1, cc, c, c', c0, tl, l32_64]
            · rw [decide_eq_false c, if_neg c]
              have c' : p ≤ 64 := by omega
              by_cases c0 : p ≤ 0
              · have p0 : p = 0 := by omega
                have tl := tail (Int32.ofNat 0) 0
                subst p0
                unfold mf_330_112 mf_330_119 mf_330_122 mf_330_127 mf_330_151 mf_330_152 mf_330_173
                simp (disch := omega) only [ev_S, ev_P, ↓reduceIte, Nat.reduceEqDiff, Nat.reduceLeDiff, Nat.reduceAdd, Nat.reduceMul, Nat.reduceSub, reduceCtorEq, l32_0, l32_1, l32_2, l32_3, l32_4, l32_5, l32_6, l32_7, l32_8, l32_9, l32_10, l32_11, l32_12, l32_13, l32_14, l32_15, l32_16, l32_17, l32_18, l32_19, l32_20, l32_21, l32_22, l32_23, l32_24, l32_25, l32_26, l32_27, l32_28, l32_29, l32_33, l32_40, l32_41, l32_44, l32_45, l32_59, l32_61, l32_91, l32_93, l32_123, l32_125, zz, n1, cc, c', c0, tl, l32_64]
              · have tl := tail (Int32.ofNat 0) p
                unfold mf_330_112 mf_330_119 mf_330_122 mf_330_127 mf_330_151 mf_330_152 mf_330_161 mf_330_168
                simp (disch := omega) only [ev_S, ev_P, ↓reduceIte, Nat.reduceEqDiff, Nat.reduceLeDiff, Nat.reduceAdd, Nat.reduceMul, Nat.reduceSub, reduceCtorEq, l32_0, l32_1, l32_2, l32_3, l32_4, l32_5, l32_6, l32_7, l32_8, l32_9, l32_10, l32_11, l32_12, l32_13, l32_14, l32_15, l32_16, l32_17, l32_18, l32_19, l32_20, l32_21, l32_22, l32_23, l32_24, l32_25, l32_26, l32_27, l32_28, l32_29, l32_33, l32_40, l32_41, l32_44, l32_45, l32_59, l32_61, l32_91, l32_93, l32_123, l32_125, zz, n1, cc, c', c0, c, tl, l32_64]
        refine ⟨(if r[i] < l0 then r[i] else l0, decide (64 < pz r[i]), a0 + if 64 < pz r[i] then 0 else pz r[i]), ⟨fun h => Or.inr (any_mem hi h), fun h => ?_⟩, st⟩
        have h : ¬ 64 < pz r[i] := decide_eq_false_iff_not.mp h
        refine ⟨Q1, fun z hz => ?_, ?_, ?_⟩
        · rw [List.take_succ_eq_append_getElem hi] at hz
          rcases List.mem_append.mp hz with hz | hz
          · exact Q2 z hz
          · rw [List.mem_singleton.mp hz]
            omega
        · show a0 + (if 64 < pz r[i] then 0 else pz r[i]) = _
          rw [if_neg h, take_sum_s hi, Q3]
        · rw [take_any hi]
          exact lst0_s Q4
    · intro F c hP
      obtain ⟨l0, g0, a0⟩ := c
      obtain ⟨P1, P2⟩ := hP
      show mf_330_112 N (mf_330_L27 N F) (Int32.ofNat 4) (Int32.ofNat a) yv (Int32.ofNat n) l0 (bI g0) (Int32.ofNat a0) (Int32.ofNat r.length) s = _
      cases hg : g0 with
      | true =>
        have P1 := P1 hg
        rw [if_pos (P1.elim Or.inl (fun z => Or.inr (Or.inl z)))]
        have EX := EX l0 (Int32.ofNat a0)
        simp only [bI]
        unfold mf_330_112 mf_330_119
        simp (disch := omega) only [ev_S, ev_P, ↓reduceIte, Nat.reduceEqDiff, Nat.reduceLeDiff, Nat.reduceAdd, Nat.reduceMul, Nat.reduceSub, reduceCtorEq, l32_0, l32_1, l32_2, l32_3, l32_4, l32_5, l32_6, l32_7, l32_8, l32_9, l32_10, l32_11, l32_12, l32_13, l32_14, l32_15, l32_16, l32_17, l32_18, l32_19, l32_20, l32_21, l32_22, l32_23, l32_24, l32_25, l32_26, l32_27, l32_28, l32_29, l32_33, l32_40, l32_41, l32_44, l32_45, l32_59, l32_61, l32_91, l32_93, l32_123, l32_125, zz, EX]
      | false =>
        obtain ⟨Q1, Q2, Q3, Q4⟩ := P2 hg
        have hs := hsum r.length Q2
        rw [List.take_length] at Q2 Q3 Q4 hs
        have Q3 : a0 = _ := Q3
        rw [← Q3] at hs
        have hna : ¬ (r.any fun z => decide (64 < pz z)) = true := fun h => by
          obtain ⟨z, z1, z2⟩ := List.any_eq_true.mp h
          have := Q2 z z1
          have := decide_eq_true_iff.mp z2
          omega
        rw [← Q3]
        by_cases c : 200 < a0
        · rw [if_pos (Or.inr (Or.inr c))]
          have c' : ¬ a0 ≤ 200 := by omega
          simp only [bI]
          unfold mf_330_112 mf_330_119 mf_330_199 mf_330_204 mf_330_212 mf_330_217 mf_330_219
          simp (disch := omega) only [ev_S, ev_P, ↓reduceIte, Nat.reduceEqDiff, Nat.reduceLeDiff, Nat.reduceAdd, Nat.reduceMul, Nat.reduceSub, reduceCtorEq, l32_0, l32_1, l32_2, l32_3, l32_4, l32_5, l32_6, l32_7, l32_8, l32_9, l32_10, l32_11, l32_12, l32_13, l32_14, l32_15, l32_16, l32_17, l32_18, l32_19, l32_20, l32_21, l32_22, l32_23, l32_24, l32_25, l32_26, l32_27, l32_28, l32_29, l32_33, l32_40, l32_41, l32_44, l32_45, l32_59, l32_61, l32_91, l32_93, l32_123, l32_125, zz, c', l32_200]
        · rw [if_neg (show ¬ (20 < r.length ∨ (r.any fun z => decide (64 < pz z)) = true ∨ 200 < a0) from fun z => z.elim (fun z => by omega) (fun z => z.elim hna c))]
          have c' : a0 ≤ 200 := by omega
          have E3 : mf_330_112 N (mf_330_L27 N F) (Int32.ofNat 4) (Int32.ofNat a) yv (Int32.ofNat n) l0 (bI false) (Int32.ofNat a0) (Int32.ofNat r.length) s = mf_330_224 N (Int32.ofNat 4) (Int32.ofNat a) yv (Int32.ofNat n) l0 (Int32.ofNat 0) s := by
            simp only [bI]
            unfold mf_330_112 mf_330_119 mf_330_199 mf_330_204 mf_330_216 mf_330_217 mf_330_219
            simp (disch := omega) only [ev_S, ev_P, ↓reduceIte, Nat.reduceEqDiff, Nat.reduceLeDiff, Nat.reduceAdd, Nat.reduceMul, Nat.reduceSub, reduceCtorEq, l32_0, l32_1, l32_2, l32_3, l32_4, l32_5, l32_6, l32_7, l32_8, l32_9, l32_10, l32_11, l32_12, l32_13, l32_14, l32_15, l32_16, l32_17, l32_18, l32_19, l32_20, l32_21, l32_22, l32_23, l32_24, l32_25, l32_26, l32_27, l32_28, l32_29, l32_33, l32_40, l32_41, l32_44, l32_45, l32_59, l32_61, l32_91, l32_93, l32_123, l32_125, zz, c', l32_200]
          rw [E3]
          unfold mf_330_224
          by_cases d : l0 < 0
          · rw [if_pos (Q4.1.mp d), if_neg (Int32.not_le.mpr d)]
          · rw [if_neg (fun z => d (Q4.1.mpr z)), if_pos (Int32.not_lt.mp d)]
  rw [E1, E2]
  unfold ansW
  by_cases c : 20 < r.length ∨ (r.any fun z => decide (64 < pz z)) = true ∨ 200 < (r.map pz).sum
  · rw [if_pos c, if_pos c]
    obtain ⟨b1, b2⟩ := T 2
    refine ⟨_, ?_, b2⟩
    unfold mf_330_229 mf_330_235 mf_330_240 mf_330_247
    simp (disch := omega) only [ev_S, ev_P, ↓reduceIte, Nat.reduceEqDiff, Nat.reduceLeDiff, Nat.reduceAdd, Nat.reduceMul, Nat.reduceSub, reduceCtorEq, l32_0, l32_1, l32_2, l32_3, l32_4, l32_5, l32_6, l32_7, l32_8, l32_9, l32_10, l32_11, l32_12, l32_13, l32_14, l32_15, l32_16, l32_17, l32_18, l32_19, l32_20, l32_21, l32_22, l32_23, l32_24, l32_25, l32_26, l32_27, l32_28, l32_29, l32_33, l32_40, l32_41, l32_44, l32_45, l32_59, l32_61, l32_91, l32_93, l32_123, l32_125, b1]
  · rw [if_neg c, if_neg c]
    by_cases d : (r.any fun z => decide (z < 0)) = true
    · rw [if_pos d, if_pos d]
      obtain ⟨b1, b2⟩ := T 1
      refine ⟨_, ?_, b2⟩
      unfold mf_330_229 mf_330_239 mf_330_240 mf_330_247
      simp (disch := omega) only [ev_S, ev_P, ↓reduceIte, Nat.reduceEqDiff, Nat.reduceLeDiff, Nat.reduceAdd, Nat.reduceMul, Nat.reduceSub, reduceCtorEq, l32_0, l32_1, l32_2, l32_3, l32_4, l32_5, l32_6, l32_7, l32_8, l32_9, l32_10, l32_11, l32_12, l32_13, l32_14, l32_15, l32_16, l32_17, l32_18, l32_19, l32_20, l32_21, l32_22, l32_23, l32_24, l32_25, l32_26, l32_27, l32_28, l32_29, l32_33, l32_40, l32_41, l32_44, l32_45, l32_59, l32_61, l32_91, l32_93, l32_123, l32_125, b1]
    · rw [if_neg d, if_neg d]
      have hr20 : r.length ≤ 20 := Nat.not_lt.mp (fun z => c (Or.inl z))
      have hs200 : (r.map pz).sum ≤ 200 := Nat.not_lt.mp (fun z => c (Or.inr (Or.inr z)))
      have hp64 : ∀ z ∈ r, pz z ≤ 64 := fun z hz => Nat.not_lt.mp (fun y => c (Or.inr (Or.inl (List.any_eq_true.mpr ⟨z, hz, decide_eq_true y⟩))))
      have hnn : ∀ z ∈ r, ¬ z < 0 := fun z hz y => d (List.any_eq_true.mpr ⟨z, hz, decide_eq_true y⟩)
      have zz1 := SZ _ _ _ G0
      have E3 : mf_330_248 N (Int32.ofNat 4) (Int32.ofNat a) yv (Int32.ofNat n) s = mf_330_L7 N N 0 (Int32.ofNat 4) (Int32.ofNat a) yv (Int32.ofNat n) (Int32.ofNat r.length) (Int32.ofNat 0) (mI s 51 (Int32.ofNat n)) := by
        unfold mf_330_248 mf_330_307 mf_330_316 mf_330_321
        simp (disch := omega) only [ev_S, ev_P, ↓reduceIte, Nat.reduceEqDiff, Nat.reduceLeDiff, Nat.reduceAdd, Nat.reduceMul, Nat.reduceSub, reduceCtorEq, l32_0, l32_1, l32_2, l32_3, l32_4, l32_5, l32_6, l32_7, l32_8, l32_9, l32_10, l32_11, l32_12, l32_13, l32_14, l32_15, l32_16, l32_17, l32_18, l32_19, l32_20, l32_21, l32_22, l32_23, l32_24, l32_25, l32_26, l32_27, l32_28, l32_29, l32_33, l32_40, l32_41, l32_44, l32_45, l32_59, l32_61, l32_91, l32_93, l32_123, l32_125, zz1]
      rw [E3]
      have sml : ∀ i, (((r.take i).map fun z => zer (pz z)).map List.length).sum ≤ 200 := fun i => by
        rw [List.map_map, show (List.length ∘ fun z => zer (pz z)) = pz from funext (fun z => zer_len)]
        have : ((r.take i).map pz).sum ≤ (r.map pz).sum := by
          conv => rhs; rw [← List.take_append_drop i r, List.map_append, List.sum_append]
          omega
        omega
      refine lp (fun F i (s' : mS) => mf_330_L7 N F 0 (Int32.ofNat 4) (Int32.ofNat a) yv (Int32.ofNat n) (Int32.ofNat r.length) (Int32.ofNat i) s') r.length (fun i s' => rG s s' n f (f + (2 * ((r.take i).map fun z => zer (pz z)).length + (((r.take i).map fun z => zer (pz z)).map List.length).sum)) (((r.take i).map fun z => zer (pz z)).map nR)) (fun R => ∃ s', R = some (s', none) ∧ rE s s' n f m (ansM 2 ((r.map fun z => zer (pz z)).map nR))) ?_ ?_ r.length 0 N _ (Nat.zero_add _) (by omega) G0
      · intro F i s2 hi G _
        left
        have hli : ((r.take i).map fun z => zer (pz z)).length = i := len_take_map (by omega)
        have hll : (((r.take i).map fun z => zer (pz z)).map nR).length = i := by rw [List.length_map, hli]
        have hsi := sml i
        have n1 : ¬ r.length ≤ i := by omega
        have sp := G.1.1
        rw [hll] at sp
        have cc := G.cell Lr hi
        have hmem := List.getElem_mem hi
        obtain ⟨p, hp, ep⟩ := i32nn (hnn _ hmem)
        have hp6 := hp64 _ hmem
        rw [ep, pz_o hp] at hp6
        rw [ep] at cc
        obtain ⟨s3, z1, z2⟩ := r_zeros (N := N) (q := p) hN G (by rw [hll]; omega) hp
        obtain ⟨s4, w1, w2⟩ := rG.row (N := N) hN z2 (by rw [hll, zer_len]; omega) (by rw [zer_len]; omega)
        rw [hll] at w1
        rw [zer_len] at w2
        refine ⟨s4, ?_, ?_⟩
        · rw [take_map_s hi, List.map_append, List.map_append, List.length_append, List.sum_append, ep, pz_o hp]
          have e : f + (2 * (((r.take i).map fun z => zer (pz z)).length + [zer p].length) + ((((r.take i).map fun z => zer (pz z)).map List.length).sum + ([zer p].map List.length).sum)) = f + (2 * ((r.take i).map fun z => zer (pz z)).length + (((r.take i).map fun z => zer (pz z)).map List.length).sum) + 2 + p := by
            show f + (2 * (_ + 1) + (_ + ((zer p).length + 0))) = _
            rw [zer_len]
            omega
          rw [e]
          exact w2
        · show mf_330_326 N (mf_330_L7 N F) (Int32.ofNat 4) (Int32.ofNat a) yv (Int32.ofNat n) (Int32.ofNat r.length) (Int32.ofNat i) s2 = _
          unfold mf_330_326 mf_330_333 mf_330_349 mf_330_360 mf_330_363 mf_330_369
          simp (disch := omega) only [ev_S, ev_P, ↓reduceIte, Nat.reduceEqDiff, Nat.reduceLeDiff, Nat.reduceAdd, Nat.reduceMul, Nat.reduceSub, reduceCtorEq, l32_0, l32_1, l32_2, l32_3, l32_4, l32_5, l32_6, l32_7, l32_8, l32_9, l32_10, l32_11, l32_12, l32_13, l32_14, l32_15, l32_16, l32_17, l32_18, l32_19, l32_20, l32_21, l32_22, l32_23, l32_24, l32_25, l32_26, l32_27, l32_28, l32_29, l32_33, l32_40, l32_41, l32_44, l32_45, l32_59, l32_61, l32_91, l32_93, l32_123, l32_125, n1, sp, cc, z1, w1]
      · intro F s2 G
        rw [List.take_length] at G
        have hs2 := sml r.length
        rw [List.take_length] at hs2
        have hlp : (r.map fun z => zer (pz z)).length = r.length := List.length_map _
        obtain ⟨s3, b1, b2⟩ := rA.bTab (N := N) hN H G (fun r' hr' => by
          obtain ⟨z, hz, rfl⟩ := List.mem_map.mp hr'
          rw [zer_len]
          exact hp64 z hz) (by rw [hlp]; omega) (by rw [hlp]; omega)
        refine ⟨s3, ?_, b2⟩
        show mf_330_326 N (mf_330_L7 N F) (Int32.ofNat 4) (Int32.ofNat a) yv (Int32.ofNat n) (Int32.ofNat r.length) (Int32.ofNat r.length) s2 = _
        unfold mf_330_326 mf_330_375 mf_330_382
        simp (disch := omega) only [ev_S, ev_P, ↓reduceIte, Nat.reduceEqDiff, Nat.reduceLeDiff, Nat.reduceAdd, Nat.reduceMul, Nat.reduceSub, reduceCtorEq, l32_0, l32_1, l32_2, l32_3, l32_4, l32_5, l32_6, l32_7, l32_8, l32_9, l32_10, l32_11, l32_12, l32_13, l32_14, l32_15, l32_16, l32_17, l32_18, l32_19, l32_20, l32_21, l32_22, l32_23, l32_24, l32_25, l32_26, l32_27, l32_28, l32_29, l32_33, l32_40, l32_41, l32_44, l32_45, l32_59, l32_61, l32_91, l32_93, l32_123, l32_125, b1]
end RWS
