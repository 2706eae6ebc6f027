/-! ===== PURE: run (108): instructions: built-ins and literals ===== -/
section GAT
variable {N : Nat} {X : Nat → Option zz_C} {t0 t t1 t2 : cS} {s0 s s' s1 s2 : mS} {u w f f' p h fu m m' d d' n k b z j jn k0 nb an o : Nat} {code : List Ins} {Fs : List Fn} {T T' T1 : Ty} {out out' : List Int32} {F G : List Fm} {sh sh' S0 : Nat → Option Nod} {vs vs' : List (Option Nod)} {I I' J : List It} {q r pl kk gg a1 b1 c1 : Int32} {v va vb : Int64} {it : It} {x y : Nod} {l : List (Option Nod)} {L L' : List Nat} {g : Fn} {a a' : Fm} {ans : Ans} {xs ys : List Nod}
theorem CX.gG (C : CX t0 t p code Fs fu S0 u 0 F sh T out) (H : cG t t1 u u 0 ys) : CX t0 t1 p code Fs fu S0 u (0 + ys.length) F sh T out ∧ kI t1 49 17 = kI t 49 17 := by
  obtain ⟨c1, c2, c3, c4⟩ := C
  obtain ⟨h1, h2, h3, h4, h5, h6⟩ := H
  refine ⟨⟨c1.W h2, c2.hp h2 (Nat.le_refl _) h4, h1, ?_⟩, h2.1 49 17 (by omega) (by omega)⟩
  rw [h2.1 49 8 (by omega) (by omega)]
  exact c4
/-- the values on top are gathered -/
theorem CX.gather (hN : 170000 ≤ N) (C : CX t0 t p code Fs fu S0 u 0 F sh T out) (hl : (cStk F).length ≤ 20000) (hx : cStk F = xs.reverse.map some ++ l) : ∃ t2, cf_145 N X (Int32.ofNat xs.length) t = some (t2, .inl none) ∧ cG t t2 u u 0 xs := by
  have hlen : xs.length ≤ 20000 := by
    rw [hx, List.length_append, List.length_map, List.length_reverse] at hl
    omega
  have key : ∀ (i Q : Nat) (t1 : cS), i ≤ xs.length → i < Q → cG t t1 u u 0 (xs.take (xs.length - i)) → ∃ t2, cf_145_L1 N X Q 0 (Int32.ofNat i) t1 = some (t2, .inl none) ∧ cG t t2 u u 0 xs := by
    intro i
    induction i with
    | zero =>
      intro Q t1 _ hQ H
      obtain ⟨Q', rfl⟩ : ∃ Q', Q = Q' + 1 := ⟨Q - 1, by omega⟩
      rw [Nat.sub_zero, List.take_length] at H
      refine ⟨t1, ?_, H⟩
      show cf_145_2 N X (cf_145_L1 N X Q') (Int32.ofNat 0) t1 = _
      unfold cf_145_2 cf_145_24
      simp (disch := omega) only [ev_S, ev_C, ↓reduceIte, Nat.reduceEqDiff, Nat.reduceLeDiff, Nat.reduceAdd, Nat.reduceMul, Nat.reduceSub, reduceCtorEq, l32_0, l32_1, l32_2, l32_3, l32_4, l32_5, l32_6, l32_7, l32_8, l32_9, l32_10, l32_11, l32_12, l32_13, l32_14, l32_15, l32_16, l32_17, l32_18, l32_19, l32_20, l32_21, l32_22, l32_23, l32_24, l32_25, l32_26, l32_27, l32_28, l32_29, l32_33, l32_40, l32_41, l32_44, l32_45, l32_59, l32_61, l32_91, l32_93, l32_123, l32_125]
    | succ i ih =>
      intro Q t1 hi hQ H
      obtain ⟨Q', rfl⟩ : ∃ Q', Q = Q' + 1 := ⟨Q - 1, by omega⟩
      have C1 := (C.gG H).1
      have hlx : (cStk F).length = xs.length + l.length := by rw [hx, List.length_append, List.length_map, List.length_reverse]
      obtain ⟨v, e1, e2⟩ := C1.peek (N := N) (X := X) (k := i + 1) (by omega) (by omega)
      have e3 : (cStk F)[i + 1 - 1]'(by omega) = some (xs[xs.length - 1 - i]'(by omega)) := by
        have : (cStk F)[i]? = some (some (xs[xs.length - 1 - i]'(by omega))) := by
          rw [hx, List.getElem?_append_left (by rw [List.length_map, List.length_reverse]; omega), List.getElem?_map, List.getElem?_eq_getElem (by rw [List.length_reverse]; omega), List.getElem_reverse]
          rfl
        rw [List.getElem?_eq_getElem (by omega)] at this
        exact Option.some.inj this
      rw [e3] at e2
      have e2 : cN (cel t1) u v (xs[xs.length - 1 - i]'(by omega)) := e2
      obtain ⟨t3, g1, g2⟩ := H.put (N := N) (X := X) (by rw [List.length_take]; omega) e2
      have e4 : xs.take (xs.length - (i + 1)) ++ [xs[xs.length - 1 - i]'(by omega)] = xs.take (xs.length - i) := by
        have := List.take_append_getElem (l := xs) (i := xs.length - (i + 1)) (by omega)
        rw [show xs.length - (i + 1) + 1 = xs.length - i by omega] at this
        rw [← this]
        congr 2
        simp only [show xs.length - 1 - i = xs.length - (i + 1) by omega]
      rw [e4] at g2
      obtain ⟨t4, k1, k2⟩ := ih Q' t3 (by omega) (by omega) g2
      refine ⟨t4, ?_, k2⟩
      rw [← k1]
      show cf_145_2 N X (cf_145_L1 N X Q') (Int32.ofNat (i + 1)) t1 = _
      have n1 : ¬ i + 1 ≤ 0 := by omega
      have sb : Int32.ofNat (i + 1) + -Int32.ofNat 1 = Int32.ofNat i := by
        rw [← Int32.sub_eq_add_neg, ← Int32.ofNat_sub _ _ (by omega)]
        rfl
      unfold cf_145_2 cf_145_6 cf_145_15 cf_145_18
      simp (disch := omega) only [ev_S, ev_C, ↓reduceIte, Nat.reduceEqDiff, Nat.reduceLeDiff, Nat.reduceAdd, Nat.reduceMul, Nat.reduceSub, reduceCtorEq, l32_0, l32_1, l32_2, l32_3, l32_4, l32_5, l32_6, l32_7, l32_8, l32_9, l32_10, l32_11, l32_12, l32_13, l32_14, l32_15, l32_16, l32_17, l32_18, l32_19, l32_20, l32_21, l32_22, l32_23, l32_24, l32_25, l32_26, l32_27, l32_28, l32_29, l32_33, l32_40, l32_41, l32_44, l32_45, l32_59, l32_61, l32_91, l32_93, l32_123, l32_125, n1, e1, g1, sb]
  obtain ⟨t2, k1, k2⟩ := key xs.length N t (Nat.le_refl _) (by omega) (by rw [Nat.sub_self, List.take_zero]; exact cG.nil C.2.2.1)
  exact ⟨t2, k1, k2⟩
theorem c_numb (hX : oX N X) (hb : b < 28) : cf_248 N X (Int32.toInt64 (Int32.ofNat (b + 11))) t = some (t, .inl (some (.ref (wrdV b)))) := by
  have hl := hX.1
  have hr := (hX.2.1 (b + 11) (by omega)).1
  have z0 : (0 : Int64) = Int64.ofNat 0 := rfl
  have q1 := lg_lt0 (a := b + 11) (b := 0) (by omega) (by omega)
  have q2 := lg_ge (a := b + 11) (b := 41) (by omega) (by omega)
  have q3 : Int32.toInt64 (Int32.ofNat 41) = Int64.ofNat 41 := i64of32 (by omega)
  have q4 : Int32.toInt64 (Int32.ofNat (b + 11)) = Int64.ofNat (b + 11) := i64of32 (by omega)
  rw [q4]
  unfold cf_248 cf_248_0 cf_248_6 cf_248_16 cf_248_28
  simp (disch := omega) only [ev_S, ev_C, ↓reduceIte, Nat.reduceEqDiff, Nat.reduceLeDiff, Nat.reduceAdd, Nat.reduceMul, Nat.reduceSub, reduceCtorEq, l32_0, l32_1, l32_2, l32_3, l32_4, l32_5, l32_6, l32_7, l32_8, l32_9, l32_10, l32_11, l32_12, l32_13, l32_14, l32_15, l32_16, l32_17, l32_18, l32_19, l32_20, l32_21, l32_22, l32_23, l32_24, l32_25, l32_26, l32_27, l32_28, l32_29, l32_33, l32_40, l32_41, l32_44, l32_45, l32_59, l32_61, l32_91, l32_93, l32_123, l32_125, z0, q1, hl, ev_b32, q3, q2, Int64.toInt32_ofNat', hr]
  rw [show wrdV b = zz_out + (b + 11 + 1) by unfold wrdV; omega]
theorem effJ {c : Ins} (ho : c.1 = 6 ∨ c.1 = 8) (e : eff c L = some L') : ∃ M, pop0 c.2.1 L = some M ∧ L' = 0 :: M := by
  obtain ⟨o', jj, r0, aa, pp, xx, yy⟩ := c
  have key : (pop0 jj L).map (0 :: ·) = some L' := by
    rcases ho with z | z
    · have z : o' = 6 := z
      subst z; exact e
    · have z : o' = 8 := z
      subst z; exact e
  show ∃ M, pop0 jj L = some M ∧ L' = 0 :: M
  cases hM : pop0 jj L with
  | none => rw [hM] at key; cases key
  | some M =>
    rw [hM] at key
    exact ⟨M, rfl, (Option.some.inj key).symm⟩
theorem ct_M (hok : mkOk k xs) (e : ansM k xs = .inr x) : xs.length ≤ ctV (vw x) := by
  unfold ansM at e
  split at e
  · rename_i y hy
    cases e
    have := (mk_grw hok hy).1
    have hk := mkOk.kk hok
    have : 1 ≤ wk k := by rcases hk with rfl | rfl | rfl <;> decide
    have h2 : xs.length ≤ wk k * xs.length := Nat.le_mul_of_pos_left _ this
    omega
  · cases e
end GAT
