/-! ===== PURE: run (70): the built-ins of two values (the reference) ===== -/
section RB2
variable {N : Nat} {s : mS} {n f m b : Nat} {x y : Nod}
/-- what a built-in of two values answers, if both suit -/
def ansB2 (b : Nat) (x y : Nod) : Ans :=
  if b = 3 then ansG (ivN x) (ivN y)
  else if b = 19 then ansJ x y
  else if b = 20 then ansTk y (ivN x)
  else if b = 21 then ansDr y (ivN x)
  else if b = 22 then ansX (rvN x) (rvN y)
  else if b = 23 then ansP x (rvN y)
  else if b = 24 then ansF (rvN x) y
  else if b = 25 then ansPd (tvN x) (ivN y)
  else if b = 26 then ansO (rvN x) (rvN y)
  else .inr (nZ (sb1 (serN x = serN y)))
theorem jk_su (lx : kn x ≤ 3) (ly : kn y ≤ 3) (ht : suB 19 1 (kn y) (kn x) = true) : ¬ (jkN x y = 2 ∧ (kn x = 0 ∨ kn y = 0)) := by
  unfold jkN
  generalize kn x = p at *
  generalize kn y = q at *
  have h2 : p = 0 ∨ p = 1 ∨ p = 2 ∨ p = 3 := by omega
  have h3 : q = 0 ∨ q = 1 ∨ q = 2 ∨ q = 3 := by omega
  clear lx ly
  rcases h2 with rfl | rfl | rfl | rfl <;> rcases h3 with rfl | rfl | rfl | rfl <;> revert ht <;> decide
theorem r_blt2 (hN : 170000 ≤ N) (H : rA s n f m [x, y]) (hE : LayN (s.2.2.1 47) (Rf f) 154240 (nR [])) (hb : b = 3 ∨ 19 ≤ b ∧ b < 28) (hs : suB b 0 (kn x) (kn x) = true) (ht : suB b 1 (kn y) (kn x) = true) : ∃ s', mf_328_66 N (Int32.ofNat b) (Int32.ofNat n) s = some (s', none) ∧ rE s s' n f m (ansB2 b x y) := by
  have H' := H
  obtain ⟨-, H2, H3, H4, H5, H6, H7, H8, H9, H10⟩ := H'
  have hx : rvl (s.2.2.1 47) f (s.2.2.1 49 n) (s.2.2.1 50 n) x := H.g.2.1 0 (Nat.succ_pos _)
  have hy : rvl (s.2.2.1 47) f (s.2.2.1 49 (n + 1)) (s.2.2.1 50 (n + 1)) y := H.g.2.1 1 (Nat.lt_succ_self 1)
  have wx := H9 x List.mem_cons_self
  have dx := H10 x List.mem_cons_self
  have wy := H9 y (List.mem_cons_of_mem _ List.mem_cons_self)
  have dy := H10 y (List.mem_cons_of_mem _ List.mem_cons_self)
  have lx := kn_le (x := x)
  have ly := kn_le (x := y)
  have h1 : b = 3 ∨ b = 19 ∨ b = 20 ∨ b = 21 ∨ b = 22 ∨ b = 23 ∨ b = 24 ∨ b = 25 ∨ b = 26 ∨ b = 27 := by omega
  have e0 : kn x = 0 → s.2.2.1 50 n = ivN x := fun h => (hx.iv h).2
  have th : ¬ kn x = 0 → ∃ a : Nat, s.2.2.1 50 n = Int32.ofNat a ∧ LayN (s.2.2.1 47) (Rf f) a x := fun h => (hx.th h).2
  have e0' : kn y = 0 → s.2.2.1 50 (n + 1) = ivN y := fun h => (hy.iv h).2
  have th' : ¬ kn y = 0 → ∃ a : Nat, s.2.2.1 50 (n + 1) = Int32.ofNat a ∧ LayN (s.2.2.1 47) (Rf f) a y := fun h => (hy.th h).2
  have to : ∀ {b : Nat} {r : Ans}, 19 ≤ b ∧ b < 28 → (∃ s', mf_347 N (Int32.ofNat b) (s.2.2.1 50 n) (s.2.2.1 50 (n + 1)) (Int32.ofNat n) s = some (s', none) ∧ rE s s' n f m r) → ∃ s', mf_328_66 N (Int32.ofNat b) (Int32.ofNat n) s = some (s', none) ∧ rE s s' n f m r := fun hb ⟨s', p, q⟩ => ⟨s', r_to347 H8 hb p, q⟩
  rcases h1 with rfl | rfl | rfl | rfl | rfl | rfl | rfl | rfl | rfl | rfl
  · have k : kn x = 0 := by simpa [suB] using hs
    have l : kn y = 0 := by simpa [suB] using ht
    obtain ⟨s', p, q⟩ := r_mk3 (N := N) (xv := ivN x) (yv := ivN y) hN H
    rw [← e0 k, ← e0' l] at p
    exact ⟨s', r_to330 H8 (by omega) p, q⟩
  · have hok : ¬ (jkN x y = 2 ∧ (kn x = 0 ∨ kn y = 0)) := by
      exact jk_su lx ly ht
    obtain ⟨s', p, q⟩ := r_join (N := N) hN H hok
    refine to (by omega) ⟨s', ?_, q⟩
    rw [r_347_19]
    unfold mf_347_48 mf_347_56
    rw [p]
    rfl
  · have k : kn x = 0 := by simpa [suB] using hs
    have l : 0 < kn y := by simpa [suB] using ht
    obtain ⟨a, e, La⟩ := th' (by omega)
    obtain ⟨s', p, q⟩ := r_tke (N := N) (z := ivN x) hN H La hE (by omega) wy dy
    refine to (by omega) ⟨s', ?_, q⟩
    rw [r_347_20, e0 k, e]
    unfold mf_347_57 mf_347_66
    rw [p]
    rfl
  · have k : kn x = 0 := by simpa [suB] using hs
    have l : 0 < kn y := by simpa [suB] using ht
    obtain ⟨a, e, La⟩ := th' (by omega)
    obtain ⟨s', p, q⟩ := r_drop (N := N) (z := ivN x) hN H La (by omega) wy dy
    refine to (by omega) ⟨s', ?_, q⟩
    rw [r_347_21, e0 k, e]
    unfold mf_347_57 mf_347_66
    rw [p]
    rfl
  · have k : kn x = 1 := by simpa [suB] using hs
    have l : kn y = 1 := by simpa [suB] using ht
    obtain ⟨a, e, La⟩ := th (by omega)
    obtain ⟨a', e', La'⟩ := th' (by omega)
    obtain ⟨s', p, q⟩ := r_cut (N := N) hN H (lay1 La k) (lay1 La' l) (rv_wf k wx) (rv_wf l wy)
    refine to (by omega) ⟨s', ?_, q⟩
    rw [r_347_22, e, e']
    unfold mf_347_67 mf_347_75
    rw [p]
    rfl
  · have k : 0 < kn x := by simpa [suB] using hs
    have l : kn y = 1 := by simpa [suB] using ht
    obtain ⟨a, e, La⟩ := th (by omega)
    obtain ⟨a', e', La'⟩ := th' (by omega)
    obtain ⟨s', p, q⟩ := r_pick (N := N) hN H La (lay1 La' l) (by omega) wx dx (rv_wf l wy)
    refine to (by omega) ⟨s', ?_, q⟩
    rw [r_347_23, e, e']
    unfold mf_347_76 mf_347_84
    rw [p]
    rfl
  · have k : kn x = 1 := by simpa [suB] using hs
    have l : kn y < 2 := by simpa [suB] using ht
    obtain ⟨a, e, La⟩ := th (by omega)
    obtain ⟨s', p, q⟩ := r_find (N := N) hN H (lay1 La k) hy rfl (rv_wf k wx) wy (by omega)
    refine to (by omega) ⟨s', ?_, q⟩
    rw [r_347_24, e]
    exact p
  · have k : kn x = 2 := by simpa [suB] using hs
    have l : kn y = 0 := by simpa [suB] using ht
    obtain ⟨a, e, La⟩ := th (by omega)
    obtain ⟨s', p, q⟩ := r_pad (N := N) (z := ivN y) hN H La k wx
    refine to (by omega) ⟨s', ?_, q⟩
    rw [r_347_25, e, e0' l]
    unfold mf_347_168 mf_347_176
    rw [p]
    rfl
  · have k : kn x = 1 := by simpa [suB] using hs
    have l : kn y = 1 := by simpa [suB] using ht
    obtain ⟨a, e, La⟩ := th (by omega)
    obtain ⟨a', e', La'⟩ := th' (by omega)
    obtain ⟨s', p, q⟩ := r_out (N := N) hN H (lay1 La k) (lay1 La' l) (rv_wf k wx) (rv_wf l wy)
    refine to (by omega) ⟨s', ?_, q⟩
    rw [r_347_26, e, e']
    unfold mf_347_177 mf_347_185
    rw [p]
    rfl
  · obtain ⟨s', p, q⟩ := r_same (N := N) hN H hx hy wx wy dx dy
    refine to (by omega) ⟨s', ?_, q⟩
    rw [r_347_27]
    exact p
end RB2
