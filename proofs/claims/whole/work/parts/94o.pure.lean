/-! ===== PURE: run (1): how high the stack may be ===== -/
/-- how many values lie there -/
def nV : List Nat → Nat
  | [] => 0
  | x :: L => nV L + (if x = 0 then 1 else 0)
theorem pop0_V : ∀ (k : Nat) (L M : List Nat), pop0 k L = some M → nV L = nV M + k
  | 0, L, M, h => by
    rw [show L = M from Option.some.inj h]
    rfl
  | k + 1, [], M, h => by
    simp [pop0] at h
  | k + 1, 0 :: L, M, h => by
    have := pop0_V k L M h
    show nV L + 1 = nV M + (k + 1)
    omega
  | k + 1, (x + 1) :: L, M, h => by
    simp [pop0] at h
/-- what an instruction does to the number of values -/
theorem eff_V {c : Ins} {L L' : List Nat} (h : eff c L = some L') : nV L ≤ nV L' + (rlen c + xlen c) ∧ nV L' ≤ nV L + rlen c ∧ (nF L ≤ 10 → nF L' ≤ 10) := by
  obtain ⟨o, j, r, a, q, x, y⟩ := c
  have pm : ∀ k, (pop0 k L).map (0 :: ·) = some L' → nV L + 1 = nV L' + k ∧ nF L' = nF L := fun k hk => by
    cases hM : pop0 k L with
    | none =>
      rw [hM] at hk
      cases hk
    | some M =>
      rw [hM] at hk
      have h1 := pop0_V k L M hM
      have h2 := pop0_F k L M hM
      rw [← show 0 :: M = L' from Option.some.inj hk]
      refine ⟨?_, h2.symm⟩
      show _ = nV M + 1 + k
      omega
  have pp : ∀ k, pop0 k L = some L' → nV L = nV L' + k ∧ nF L' = nF L := fun k hk => ⟨pop0_V k L L' hk, (pop0_F k L L' hk).symm⟩
  by_cases h26 : o ≤ 26
  · have hv : o = 0 ∨ o = 1 ∨ o = 2 ∨ o = 3 ∨ o = 4 ∨ o = 5 ∨ o = 6 ∨ o = 7 ∨ o = 8 ∨ o = 9 ∨ o = 10 ∨ o = 11 ∨ o = 12 ∨ o = 13 ∨ o = 14 ∨ o = 15 ∨ o = 16 ∨ o = 17 ∨ o = 18 ∨ o = 19 ∨ o = 20 ∨ o = 21 ∨ o = 22 ∨ o = 23 ∨ o = 24 ∨ o = 25 ∨ o = 26 := by omega
    rcases hv with rfl | rfl | rfl | rfl | rfl | rfl | rfl | rfl | rfl | rfl | rfl | rfl | rfl | rfl | rfl | rfl | rfl | rfl | rfl | rfl | rfl | rfl | rfl | rfl | rfl | rfl | rfl
    · rw [← show 0 :: L = L' from Option.some.inj h]
      show nV L ≤ nV L + 1 + (1 + 0) ∧ nV L + 1 ≤ nV L + 1 ∧ (nF L ≤ 10 → nF L ≤ 10)
      omega
    · rw [← show 0 :: L = L' from Option.some.inj h]
      show nV L ≤ nV L + 1 + (1 + 0) ∧ nV L + 1 ≤ nV L + 1 ∧ (nF L ≤ 10 → nF L ≤ 10)
      omega
    · rw [← show 1 :: L = L' from Option.some.inj h]
      show nV L ≤ nV L + (0 + 0) ∧ nV L ≤ nV L + 0 ∧ (nF L ≤ 10 → nF L ≤ 10)
      omega
    · have h : (match (generalizing := false) L with | 0 :: 1 :: M => some (0 :: M) | _ => none) = some L' := h
      split at h
      · rename_i M h0
        rw [← Option.some.inj h]
        show nV M + 1 ≤ nV M + 1 + (1 + 0) ∧ nV M + 1 ≤ nV M + 1 + 1 ∧ (nF M ≤ 10 → nF M ≤ 10)
        omega
      · cases h
    · have := pm 1 h
      show nV L ≤ nV L' + (1 + 0) ∧ nV L' ≤ nV L + 1 ∧ _
      omega
    · have := pm 2 h
      show nV L ≤ nV L' + (1 + 0) ∧ nV L' ≤ nV L + 1 ∧ _
      omega
    · have := pm j h
      show nV L ≤ nV L' + (1 + (j - 1)) ∧ nV L' ≤ nV L + 1 ∧ _
      omega
    · have := pm 2 h
      show nV L ≤ nV L' + (1 + 0) ∧ nV L' ≤ nV L + 1 ∧ _
      omega
    · have := pm j h
      show nV L ≤ nV L' + (1 + (j - 1)) ∧ nV L' ≤ nV L + 1 ∧ _
      omega
    · have := pm r h
      show nV L ≤ nV L' + (1 + (r - 1)) ∧ nV L' ≤ nV L + 1 ∧ _
      omega
    · have h : (if r ≤ 2 then (pop0 r L).map (0 :: ·) else none) = some L' := h
      by_cases z : r ≤ 2
      · rw [if_pos z] at h
        have := pm r h
        show nV L ≤ nV L' + (2 + 0) ∧ nV L' ≤ nV L + 2 ∧ _
        omega
      · rw [if_neg z] at h
        cases h
    · rw [pay_eq h]
      show nV L' + 1 ≤ nV L' + (1 + 0) ∧ nV L' ≤ nV L' + 1 + 1 ∧ (nF L' ≤ 10 → nF L' ≤ 10)
      omega
    · have h : (pop0 j L).bind pay = some L' := h
      cases hM : pop0 j L with
      | none =>
        rw [hM] at h
        cases h
      | some M =>
        rw [hM] at h
        have h : pay M = some L' := h
        have h1 := pop0_V j L M hM
        have h2 := pop0_F j L M hM
        rw [pay_eq h] at h1 h2
        have h1 : nV L = nV L' + 1 + j := h1
        have h2 : nF L = nF L' := h2
        show nV L ≤ nV L' + (1 + j) ∧ nV L' ≤ nV L + 1 ∧ _
        omega
    · have h : (match (generalizing := false) L with | 0 :: 5 :: M => if nF M < 10 then some (4 :: M) else none | _ => none) = some L' := h
      split at h
      · rename_i M h0
        split at h
        · rw [← Option.some.inj h]
          show nV M + 1 ≤ nV M + (1 + 0) ∧ nV M ≤ nV M + 1 + 1 ∧ (nF M ≤ 10 → nF M + 1 ≤ 10)
          omega
        · cases h
      · cases h
    · have h : (if r = 1 then (match (generalizing := false) L with | 5 :: 2 :: M => some M | _ => none) else if r = 2 then (match (generalizing := false) L with | 4 :: 5 :: M => some M | _ => none) else (match (generalizing := false) L with | 4 :: M => some M | _ => none)) = some L' := h
      split at h
      · split at h
        · rename_i M h0
          rw [← Option.some.inj h]
          show nV M ≤ nV M + (1 + 0) ∧ nV M ≤ nV M + 1 ∧ (nF M + 1 ≤ 10 → nF M ≤ 10)
          omega
        · cases h
      · split at h
        · split at h
          · rename_i M h0
            rw [← Option.some.inj h]
            show nV M ≤ nV M + (1 + 0) ∧ nV M ≤ nV M + 1 ∧ (nF M + 1 ≤ 10 → nF M ≤ 10)
            omega
          · cases h
        · split at h
          · rename_i M h0
            rw [← Option.some.inj h]
            show nV M ≤ nV M + (1 + 0) ∧ nV M ≤ nV M + 1 ∧ (nF M + 1 ≤ 10 → nF M ≤ 10)
            omega
          · cases h
    · have h : (match (generalizing := false) L with | 5 :: M => some (5 :: 5 :: M) | _ => none) = some L' := h
      split at h
      · rw [← Option.some.inj h]
        exact ⟨Nat.le_add_right _ _, Nat.le_add_right _ _, fun z => z⟩
      · cases h
    · have h : (match (generalizing := false) L with | 0 :: _ => none | 1 :: _ => none | _ => some (5 :: L)) = some L' := h
      split at h
      · cases h
      · cases h
      · rw [← Option.some.inj h]
        exact ⟨Nat.le_add_right _ _, Nat.le_add_right _ _, fun z => z⟩
    · have h : (match (generalizing := false) L with | 0 :: 5 :: M => if nF M < 10 then some (2 :: M) else none | _ => none) = some L' := h
      split at h
      · rename_i M h0
        split at h
        · rw [← Option.some.inj h]
          show nV M + 1 ≤ nV M + (1 + 0) ∧ nV M ≤ nV M + 1 + 1 ∧ (nF M ≤ 10 → nF M + 1 ≤ 10)
          omega
        · cases h
      · cases h
    · have h : (match (generalizing := false) L with | 2 :: M => some (5 :: 2 :: M) | _ => none) = some L' := h
      split at h
      · rw [← Option.some.inj h]
        exact ⟨Nat.le_add_right _ _, Nat.le_add_right _ _, fun z => z⟩
      · cases h
    · rw [pay_eq h]
      show nV L' + 1 ≤ nV L' + (1 + 0) ∧ nV L' ≤ nV L' + 1 + 1 ∧ (nF L' ≤ 10 → nF L' ≤ 10)
      omega
    · have h : (match (generalizing := false) L with | 0 :: 5 :: M => some M | [0] => some [] | _ => none) = some L' := h
      split at h
      · rename_i M h0
        rw [← Option.some.inj h]
        show nV M + 1 ≤ nV M + (1 + 0) ∧ nV M ≤ nV M + 1 + 1 ∧ (nF M ≤ 10 → nF M ≤ 10)
        omega
      · rw [← Option.some.inj h]
        show 0 + 1 ≤ 0 + (1 + 0) ∧ 0 ≤ 0 + 1 + 1 ∧ (0 ≤ 10 → 0 ≤ 10)
        omega
      · cases h
    · rw [pay_eq h]
      show nV L' + 1 ≤ nV L' + (1 + 0) ∧ nV L' ≤ nV L' + 1 + 1 ∧ (nF L' ≤ 10 → nF L' ≤ 10)
      omega
    · rw [pay_eq h]
      show nV L' + 1 ≤ nV L' + (1 + 0) ∧ nV L' ≤ nV L' + 1 + 1 ∧ (nF L' ≤ 10 → nF L' ≤ 10)
      omega
    · have h : (match (generalizing := false) L with | 5 :: M => if nF M < 10 then some (3 :: M) else none | _ => none) = some L' := h
      split at h
      · rename_i M h0
        split at h
        · rw [← Option.some.inj h]
          show nV M ≤ nV M + (1 + 0) ∧ nV M ≤ nV M + 1 ∧ (nF M ≤ 10 → nF M + 1 ≤ 10)
          omega
        · cases h
      · cases h
    · have h : (match (generalizing := false) L with | 3 :: M => some (9 :: M) | _ => none) = some L' := h
      split at h
      · rename_i M h0
        rw [← Option.some.inj h]
        show nV M ≤ nV M + (1 + 0) ∧ nV M ≤ nV M + 1 ∧ (nF M + 1 ≤ 10 → nF M ≤ 10)
        omega
      · cases h
    · have h : (match (generalizing := false) L with | 9 :: M => some M | _ => none) = some L' := h
      split at h
      · rw [← Option.some.inj h]
        exact ⟨Nat.le_add_right _ _, Nat.le_add_right _ _, fun z => z⟩
      · cases h
    · have h : (match (generalizing := false) L with | 4 :: M => some M | _ => none) = some L' := h
      split at h
      · rename_i M h0
        rw [← Option.some.inj h]
        show nV M ≤ nV M + (0 + 0) ∧ nV M ≤ nV M + 0 ∧ (nF M + 1 ≤ 10 → nF M ≤ 10)
        omega
      · cases h
  · exfalso
    have : eff (o, j, r, a, q, x, y) L = none := by
      unfold eff
      dsimp only
      split
      all_goals first | rfl | omega
    rw [this] at h
    cases h
theorem run_V : ∀ (code : List Ins) (L L' : List Nat), code.foldlM (fun L c => eff c L) L = some L' → nV L ≤ nV L' + (rl code + xl code) ∧ nV L' ≤ nV L + rl code ∧ (nF L ≤ 10 → nF L' ≤ 10)
  | [], L, L', h => by
    rw [show L = L' from Option.some.inj h]
    exact ⟨Nat.le_add_right _ _, Nat.le_add_right _ _, fun z => z⟩
  | c :: code, L, L', h => by
    rw [List.foldlM_cons] at h
    cases hM : eff c L with
    | none =>
      rw [hM] at h
      cases h
    | some M =>
      rw [hM] at h
      obtain ⟨i1, i2, i3⟩ := run_V code M L' h
      obtain ⟨j1, j2, j3⟩ := eff_V hM
      have er : rl (c :: code) = rlen c + rl code := by unfold rl; rw [List.map_cons, List.sum_cons]
      have ex : xl (c :: code) = xlen c + xl code := by unfold xl; rw [List.map_cons, List.sum_cons]
      rw [er, ex]
      exact ⟨by omega, by omega, fun z => i3 (j3 z)⟩
/-- at each place of a program: few values, and no deep nest -/
theorem hgt {code : List Ins} {m : Nat} (h : lyo code = some []) (hw : rl code + xl code ≤ 1610) : ∃ L, lyo (code.take m) = some L ∧ (code.drop m).foldlM (fun L c => eff c L) L = some [] ∧ nV L ≤ 805 ∧ nF L ≤ 10 := by
  have e : code = code.take m ++ code.drop m := (List.take_append_drop m code).symm
  have h' : (code.take m ++ code.drop m).foldlM (fun L c => eff c L) [] = some [] := by
    rw [← e]
    exact h
  rw [List.foldlM_append] at h'
  have hr : rl code = rl (code.take m) + rl (code.drop m) := by rw [← rl_app, ← e]
  have hx : xl code = xl (code.take m) + xl (code.drop m) := by rw [← xl_app, ← e]
  cases hM : (code.take m).foldlM (fun L c => eff c L) [] with
  | none =>
    rw [hM] at h'
    cases h'
  | some L =>
    rw [hM] at h'
    have h' : (code.drop m).foldlM (fun L c => eff c L) L = some [] := h'
    obtain ⟨a1, a2, a3⟩ := run_V _ _ _ hM
    obtain ⟨b1, b2, b3⟩ := run_V _ _ _ h'
    have n0 : nV [] = 0 := rfl
    exact ⟨L, hM, h', by omega, a3 (Nat.zero_le _)⟩
