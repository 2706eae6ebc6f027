/-! ===== PURE: run (32): one value's signs are two values' with 0 ===== -/
section BRI
variable {x : Nod}
theorem range_getD {α β : Type} {r : List α} {d : α} {h : α → β} : (List.range r.length).map (fun j => h (r.getD j d)) = r.map h := by
  apply List.ext_getElem
  · rw [List.length_map, List.length_map, List.length_range]
  · intro i h1 h2
    rw [List.length_map] at h2
    rw [List.getElem_map, List.getElem_map, List.getElem_range, List.getD_eq_getElem?_getD, List.getElem?_eq_getElem h2]
    rfl
theorem any_none {n : Nat} {p : Nat → Bool} (h : ∀ i, p i = false) : (List.range n).any p = false := by
  rw [List.any_eq_false]
  intro i _
  rw [h i]
  intro z
  cases z
theorem ans_neg : ansT 45 (nZ 0) x = ans1 (fun a => -a) x := by
  have eg : ∀ a : Int32, ac 45 0 a = -a := fun a => by
    show (0 : Int32) - a = -a
    exact Int32.zero_sub a
  have lx := kn_le (x := x)
  have hb : bdk 45 (nZ 0) x = false := any_none (fun i => any_none (fun j => rfl))
  unfold ansT ans1
  rw [unk_0 (Or.inl rfl), hb]
  have e0 : kn (nZ 0) = 0 := rfl
  rw [e0]
  by_cases c3 : kn x = 3
  · rw [if_pos (Or.inr c3), if_pos c3]
  · rw [if_neg (show ¬ (0 = 3 ∨ kn x = 3) by omega), if_neg c3]
    by_cases c0 : kn x = 0
    · rw [if_pos ⟨rfl, c0⟩, if_pos c0]
      show Sum.inr (nZ (ac 45 0 (ivN x))) = _
      rw [eg]
    · rw [if_neg (show ¬ (0 = 0 ∧ kn x = 0) from fun z => c0 z.2), if_neg c0, if_neg (by intro h; cases h), if_neg (by intro h; cases h)]
      by_cases c1 : kn x = 1
      · rw [if_neg (show ¬ (0 = 2 ∨ kn x = 2) by omega), if_pos c1]
        have e : row2 45 (bsd (nZ 0) 0) (bsd x 0) = (rvN x).map fun a => -a := by
          show row2 45 (.inl 0) (bsdV (vw x) 0) = _
          rw [kn1 c1]
          show (List.range (rvN x).length).map (fun j => ac 45 0 ((rvN x).getD j 0)) = _
          rw [range_getD (h := fun a => ac 45 0 a)]
          congr 1
        rw [e]
      · have c2 : kn x = 2 := by omega
        rw [if_pos (Or.inr c2), if_neg c1]
        have hr : rws (nZ 0) x = (tvN x).length := by
          unfold rws
          rw [e0, if_neg (by omega), if_pos c2, kn2_sz c2]
        rw [hr]
        have e : (List.range (tvN x).length).map (fun i => nR (row2 45 (bsd (nZ 0) i) (bsd x i))) = ((tvN x).map fun r => r.map fun a => -a).map nR := by
          rw [List.map_map]
          rw [← range_getD (d := []) (h := nR ∘ fun r : List Int32 => r.map fun a => -a)]
          congr 1
          funext i
          show nR (row2 45 (.inl 0) (bsdV (vw x) i)) = nR (((tvN x).getD i []).map fun a => -a)
          rw [kn2' c2]
          show nR ((List.range ((tvN x).getD i []).length).map (fun j => ac 45 0 (((tvN x).getD i []).getD j 0))) = _
          rw [range_getD (h := fun a => ac 45 0 a)]
          congr 3
        rw [e]
theorem ans_not : ansT 256 x (nZ 0) = ans1 (fun a => if a = 0 then 1 else 0) x := by
  have eg : ∀ a : Int32, ac 256 a 0 = if a = 0 then 1 else 0 := fun a => by
    show bI (decide (a = 0)) = _
    by_cases c : a = 0
    · rw [decide_eq_true c, if_pos c]
      rfl
    · rw [decide_eq_false c, if_neg c]
      rfl
  have lx := kn_le (x := x)
  have hb : bdk 256 x (nZ 0) = false := any_none (fun i => any_none (fun j => rfl))
  unfold ansT ans1
  rw [unk_0 (Or.inr rfl), hb]
  have e0 : kn (nZ 0) = 0 := rfl
  rw [e0]
  by_cases c3 : kn x = 3
  · rw [if_pos (Or.inl c3), if_pos c3]
  · rw [if_neg (show ¬ (kn x = 3 ∨ 0 = 3) by omega), if_neg c3]
    by_cases c0 : kn x = 0
    · rw [if_pos ⟨c0, rfl⟩, if_pos c0]
      show Sum.inr (nZ (ac 256 (ivN x) 0)) = _
      rw [eg]
    · rw [if_neg (show ¬ (kn x = 0 ∧ 0 = 0) from fun z => c0 z.1), if_neg c0, if_neg (by intro h; cases h), if_neg (by intro h; cases h)]
      by_cases c1 : kn x = 1
      · rw [if_neg (show ¬ (kn x = 2 ∨ 0 = 2) by omega), if_pos c1]
        have e : row2 256 (bsd x 0) (bsd (nZ 0) 0) = (rvN x).map fun a => if a = 0 then 1 else 0 := by
          show row2 256 (bsdV (vw x) 0) (.inl 0) = _
          rw [kn1 c1]
          show (List.range (rvN x).length).map (fun j => ac 256 ((rvN x).getD j 0) 0) = _
          rw [range_getD (h := fun a => ac 256 a 0)]
          congr 1
          funext a
          exact eg a
        rw [e]
      · have c2 : kn x = 2 := by omega
        rw [if_pos (Or.inl c2), if_neg c1]
        have hr : rws x (nZ 0) = (tvN x).length := by
          unfold rws
          rw [if_pos c2, kn2_sz c2]
        rw [hr]
        have e : (List.range (tvN x).length).map (fun i => nR (row2 256 (bsd x i) (bsd (nZ 0) i))) = ((tvN x).map fun r => r.map fun a => if a = 0 then 1 else 0).map nR := by
          rw [List.map_map]
          rw [← range_getD (d := []) (h := nR ∘ fun r : List Int32 => r.map fun a => if a = 0 then 1 else 0)]
          congr 1
          funext i
          show nR (row2 256 (bsdV (vw x) i) (.inl 0)) = nR (((tvN x).getD i []).map fun a => if a = 0 then 1 else 0)
          rw [kn2' c2]
          show nR ((List.range ((tvN x).getD i []).length).map (fun j => ac 256 (((tvN x).getD i []).getD j 0) 0)) = _
          rw [range_getD (h := fun a => ac 256 a 0)]
          congr 3
          funext a
          exact eg a
        rw [e]
theorem r_neg {N : Nat} {s : mS} {n f m : Nat} (hN : 170000 ≤ N) (H : rA s n f m [x]) : ∃ s', mf_323 N (Int32.ofNat 45) s = some (s', none) ∧ rE s s' n f m (ansT 45 (nZ 0) x) := by
  rw [ans_neg]
  exact r_one hN (fun N a s => rfl) H
theorem r_not {N : Nat} {s : mS} {n f m : Nat} (hN : 170000 ≤ N) (H : rA s n f m [x]) : ∃ s', mf_323 N (Int32.ofNat 33) s = some (s', none) ∧ rE s s' n f m (ansT 256 x (nZ 0)) := by
  rw [ans_not]
  refine r_one hN (fun N a s => ?_) H
  by_cases c : a = 0
  · rw [if_pos c, c]
    rfl
  · rw [if_neg c]
    show (if ¬ a = 0 then some (s, some (Value.int 0)) else some (s, some (Value.int 1))) = _
    rw [if_pos c]
end BRI
