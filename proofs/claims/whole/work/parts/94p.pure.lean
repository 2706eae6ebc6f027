/-! ===== PURE: run (1b): how many values the class has there ===== -/
def nW : List Nat → Nat
  | [] => 0
  | x :: L => nW L + (if x ≤ 1 then 1 else 0)
theorem pop0_W : ∀ (k : Nat) (L M : List Nat), pop0 k L = some M → nW L = nW M + k
  | 0, L, M, h => by
    rw [show L = M from Option.some.inj h]
    rfl
  | k + 1, [], M, h => by
    simp [pop0] at h
  | k + 1, 0 :: L, M, h => by
    have := pop0_W k L M h
    show nW L + 1 = nW M + (k + 1)
    omega
  | k + 1, (x + 1) :: L, M, h => by
    simp [pop0] at h
theorem eff_W {c : Ins} {L L' : List Nat} (h : eff c L = some L') : nW L ≤ nW L' + (rlen c + xlen c) := by
  obtain ⟨o, j, r, a, q, x, y⟩ := c
  have pm : ∀ k, (pop0 k L).map (0 :: ·) = some L' → nW L + 1 = nW L' + k := fun k hk => by
    cases hM : pop0 k L with
    | none =>
      rw [hM] at hk
      cases hk
    | some M =>
      rw [hM] at hk
      have h1 := pop0_W k L M hM
      rw [← show 0 :: M = L' from Option.some.inj hk]
      show _ = nW M + 1 + k
      omega
  by_cases h26 : o ≤ 26
  · have hv : o = 0 ∨ o = 1 ∨ o = 2 ∨ o = 3 ∨ o = 4 ∨ o = 5 ∨ o = 6 ∨ o = 7 ∨ o = 8 ∨ o = 9 ∨ o = 10 ∨ o = 11 ∨ o = 12 ∨ o = 13 ∨ o = 14 ∨ o = 15 ∨ o = 16 ∨ o = 17 ∨ o = 18 ∨ o = 19 ∨ o = 20 ∨ o = 21 ∨ o = 22 ∨ o = 23 ∨ o = 24 ∨ o = 25 ∨ o = 26 := by omega
    rcases hv with rfl | rfl | rfl | rfl | rfl | rfl | rfl | rfl | rfl | rfl | rfl | rfl | rfl | rfl | rfl | rfl | rfl | rfl | rfl | rfl | rfl | rfl | rfl | rfl | rfl | rfl | rfl
    · rw [← show 0 :: L = L' from Option.some.inj h]
      show nW L ≤ nW L + 1 + (1 + 0)
      omega
    · rw [← show 0 :: L = L' from Option.some.inj h]
      show nW L ≤ nW L + 1 + (1 + 0)
      omega
    · rw [← show 1 :: L = L' from Option.some.inj h]
      show nW L ≤ nW L + 1 + (0 + 0)
      omega
    · have h : (match (generalizing := false) L with | 0 :: 1 :: M => some (0 :: M) | _ => none) = some L' := h
      split at h
      · rename_i M h0
        rw [← Option.some.inj h]
        show nW M + 1 + 1 ≤ nW M + 1 + (1 + 0)
        omega
      · cases h
    · have := pm 1 h
      show nW L ≤ nW L' + (1 + 0)
      omega
    · have := pm 2 h
      show nW L ≤ nW L' + (1 + 0)
      omega
    · have := pm j h
      show nW L ≤ nW L' + (1 + (j - 1))
      omega
    · have := pm 2 h
      show nW L ≤ nW L' + (1 + 0)
      omega
    · have := pm j h
      show nW L ≤ nW L' + (1 + (j - 1))
      omega
    · have := pm r h
      show nW L ≤ nW L' + (1 + (r - 1))
      omega
    · have h : (if r ≤ 2 then (pop0 r L).map (0 :: ·) else none) = some L' := h
      by_cases z : r ≤ 2
      · rw [if_pos z] at h
        have := pm r h
        show nW L ≤ nW L' + (2 + 0)
        omega
      · rw [if_neg z] at h
        cases h
    · rw [pay_eq h]
      show nW L' + 1 ≤ nW L' + (1 + 0)
      omega
    · have h : (pop0 j L).bind pay = some L' := h
      cases hM : pop0 j L with
      | none =>
        rw [hM] at h
        cases h
      | some M =>
        rw [hM] at h
        have h : pay M = some L' := h
        have h1 := pop0_W j L M hM
        rw [pay_eq h] at h1
        have h1 : nW L = nW L' + 1 + j := h1
        show nW L ≤ nW L' + (1 + j)
        omega
    · have h : (match (generalizing := false) L with | 0 :: 5 :: M => if nF M < 10 then some (4 :: M) else none | _ => none) = some L' := h
      split at h
      · rename_i M h0
        split at h
        · rw [← Option.some.inj h]
          show nW M + 1 ≤ nW M + (1 + 0)
          omega
        · cases h
      · cases h
    · have h : (if r = 1 then (match (generalizing := false) L with | 5 :: 2 :: M => some M | _ => none) else if r = 2 then (match (generalizing := false) L with | 4 :: 5 :: M => some M | _ => none) else (match (generalizing := false) L with | 4 :: M => some M | _ => none)) = some L' := h
      split at h
      · split at h
        · rename_i M h0
          rw [← Option.some.inj h]
          show nW M ≤ nW M + (1 + 0)
          omega
        · cases h
      · split at h
        · split at h
          · rename_i M h0
            rw [← Option.some.inj h]
            show nW M ≤ nW M + (1 + 0)
            omega
          · cases h
        · split at h
          · rename_i M h0
            rw [← Option.some.inj h]
            show nW M ≤ nW M + (1 + 0)
            omega
          · cases h
    · have h : (match (generalizing := false) L with | 5 :: M => some (5 :: 5 :: M) | _ => none) = some L' := h
      split at h
      · rw [← Option.some.inj h]
        exact Nat.le_add_right _ _
      · cases h
    · have h : (match (generalizing := false) L with | 0 :: _ => none | 1 :: _ => none | _ => some (5 :: L)) = some L' := h
      split at h
      · cases h
      · cases h
      · rw [← Option.some.inj h]
        exact Nat.le_add_right _ _
    · have h : (match (generalizing := false) L with | 0 :: 5 :: M => if nF M < 10 then some (2 :: M) else none | _ => none) = some L' := h
      split at h
      · rename_i M h0
        split at h
        · rw [← Option.some.inj h]
          show nW M + 1 ≤ nW M + (1 + 0)
          omega
        · cases h
      · cases h
    · have h : (match (generalizing := false) L with | 2 :: M => some (5 :: 2 :: M) | _ => none) = some L' := h
      split at h
      · rw [← Option.some.inj h]
        exact Nat.le_add_right _ _
      · cases h
    · rw [pay_eq h]
      show nW L' + 1 ≤ nW L' + (1 + 0)
      omega
    · have h : (match (generalizing := false) L with | 0 :: 5 :: M => some M | [0] => some [] | _ => none) = some L' := h
      split at h
      · rename_i M h0
        rw [← Option.some.inj h]
        show nW M + 1 ≤ nW M + (1 + 0)
        omega
      · rw [← Option.some.inj h]
        show 0 + 1 ≤ 0 + (1 + 0)
        omega
      · cases h
    · rw [pay_eq h]
      show nW L' + 1 ≤ nW L' + (1 + 0)
      omega
    · rw [pay_eq h]
      show nW L' + 1 ≤ nW L' + (1 + 0)
      omega
    · have h : (match (generalizing := false) L with | 5 :: M => if nF M < 10 then some (3 :: M) else none | _ => none) = some L' := h
      split at h
      · rename_i M h0
        split at h
        · rw [← Option.some.inj h]
          show nW M ≤ nW M + (1 + 0)
          omega
        · cases h
      · cases h
    · have h : (match (generalizing := false) L with | 3 :: M => some (9 :: M) | _ => none) = some L' := h
      split at h
      · rename_i M h0
        rw [← Option.some.inj h]
        show nW M ≤ nW M + (1 + 0)
        omega
      · cases h
    · have h : (match (generalizing := false) L with | 9 :: M => some M | _ => none) = some L' := h
      split at h
      · rw [← Option.some.inj h]
        exact Nat.le_add_right _ _
      · cases h
    · have h : (match (generalizing := false) L with | 4 :: M => some M | _ => none) = some L' := h
      split at h
      · rename_i M h0
        rw [← Option.some.inj h]
        show nW M ≤ nW M + (0 + 0)
        omega
      · cases h
  · exfalso
    have : eff (o, j, r, a, q, x, y) L = none := by
      unfold eff
      dsimp only
      split
      all_goals first | rfl | omega
    rw [this] at h
    cases h
theorem run_W : ∀ (code : List Ins) (L L' : List Nat), code.foldlM (fun L c => eff c L) L = some L' → nW L ≤ nW L' + (rl code + xl code)
  | [], L, L', h => by
    rw [show L = L' from Option.some.inj h]
    exact Nat.le_add_right _ _
  | c :: code, L, L', h => by
    rw [List.foldlM_cons] at h
    cases hM : eff c L with
    | none =>
      rw [hM] at h
      cases h
    | some M =>
      rw [hM] at h
      have i1 := run_W code M L' h
      have j1 := eff_W hM
      have er : rl (c :: code) = rlen c + rl code := by unfold rl; rw [List.map_cons, List.sum_cons]
      have ex : xl (c :: code) = xlen c + xl code := by unfold xl; rw [List.map_cons, List.sum_cons]
      rw [er, ex]
      omega
/-- at each place of a program -/
theorem hgt2 {code : List Ins} {m : Nat} {L : List Nat} (h : lyo code = some []) (hw : rl code + xl code ≤ 1610) (hL : lyo (code.take m) = some L) : nV L ≤ 805 ∧ nF L ≤ 10 ∧ nW L ≤ 1610 := by
  obtain ⟨L', h1, h2, h3, h4⟩ := hgt (m := m) h hw
  rw [hL] at h1
  cases Option.some.inj h1
  refine ⟨h3, h4, ?_⟩
  have h5 := run_W _ _ _ h2
  have hr : rl code = rl (code.take m) + rl (code.drop m) := by rw [← rl_app, List.take_append_drop]
  have hx : xl code = xl (code.take m) + xl (code.drop m) := by rw [← xl_app, List.take_append_drop]
  have n0 : nW [] = 0 := rfl
  omega
