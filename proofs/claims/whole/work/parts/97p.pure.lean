/-! ===== PURE: run (69): the built-ins of one value (the reference) ===== -/
section RB1
variable {N : Nat} {s : mS} {n f m b : Nat} {x : Nod}
/-- what a built-in of one value answers, if the value suits -/
def ansB1 (b : Nat) (x : Nod) : Ans :=
  if b ≤ 2 then ansC (if b = 1 then 1 else 0) (if b = 2 then 3 else 1) (if b < 2 then 64 else 20) (ivN x)
  else if b = 4 then ansW (rvN x)
  else if b = 6 then .inr (nZ (Int32.ofNat (szN x)))
  else if b = 7 then ansM 1 (((tvN x).map fun r => Int32.ofNat r.length).map nZ)
  else if b = 8 then .inr (nZ (Int32.ofNat (kn x)))
  else if b = 9 ∨ b = 10 ∨ b = 11 then ansD b x
  else if b = 12 ∨ b = 13 ∨ b = 14 then ansK b x
  else if b = 15 then ansM (kn x) (pts x).reverse
  else if b = 16 then ansFl x
  else if b = 17 then ansTr (tvN x)
  else ansGp (rvN x)
theorem r_blt1 (hN : 170000 ≤ N) (H : rA s n f m [x]) (hb : b ≤ 18) (h3 : ¬ b = 3 ∧ ¬ b = 5) (hs : suB b 0 (kn x) (kn x) = true) : ∃ s', mf_328_66 N (Int32.ofNat b) (Int32.ofNat n) s = some (s', none) ∧ rE s s' n f m (ansB1 b x) := by
  have H' := H
  obtain ⟨-, H2, H3, H4, H5, H6, H7, H8, H9, H10⟩ := H'
  have hx : rvl (s.2.2.1 47) f (s.2.2.1 49 n) (s.2.2.1 50 n) x := H.g.2.1 0 (Nat.lt_succ_self 0)
  have wx := H9 x List.mem_cons_self
  have dx := H10 x List.mem_cons_self
  have lx := kn_le (x := x)
  have h1 : b = 0 ∨ b = 1 ∨ b = 2 ∨ b = 4 ∨ b = 6 ∨ b = 7 ∨ b = 8 ∨ b = 9 ∨ b = 10 ∨ b = 11 ∨ b = 12 ∨ b = 13 ∨ b = 14 ∨ b = 15 ∨ b = 16 ∨ b = 17 ∨ b = 18 := by omega
  have A := r_oneA (N := N) hN H hx rfl wx dx
  have to3 : ∀ {b : Nat} {r : Ans}, b < 5 → (∃ s', mf_330 N (Int32.ofNat b) (s.2.2.1 50 n) (s.2.2.1 50 (n + 1)) (Int32.ofNat n) s = some (s', none) ∧ rE s s' n f m r) → ∃ s', mf_328_66 N (Int32.ofNat b) (Int32.ofNat n) s = some (s', none) ∧ rE s s' n f m r := fun hb ⟨s', p, q⟩ => ⟨s', r_to330 H8 hb p, q⟩
  have to4 : ∀ {b : Nat} {r : Ans}, 5 < b ∧ b < 16 → (∃ s', mf_333 N (Int32.ofNat b) (s.2.2.1 50 n) (Int32.ofNat n) s = some (s', none) ∧ rE s s' n f m r) → ∃ s', mf_328_66 N (Int32.ofNat b) (Int32.ofNat n) s = some (s', none) ∧ rE s s' n f m r := fun hb ⟨s', p, q⟩ => ⟨s', r_to333 H8 hb p, q⟩
  have to5 : ∀ {b : Nat} {r : Ans}, 16 ≤ b ∧ b < 19 → (∃ s', mf_335 N (Int32.ofNat b) (s.2.2.1 50 n) (Int32.ofNat n) s = some (s', none) ∧ rE s s' n f m r) → ∃ s', mf_328_66 N (Int32.ofNat b) (Int32.ofNat n) s = some (s', none) ∧ rE s s' n f m r := fun hb ⟨s', p, q⟩ => ⟨s', r_to335 H8 hb p, q⟩
  have e0 : kn x = 0 → s.2.2.1 50 n = ivN x := fun h => (hx.iv h).2
  have th : ¬ kn x = 0 → ∃ a : Nat, s.2.2.1 50 n = Int32.ofNat a ∧ LayN (s.2.2.1 47) (Rf f) a x := fun h => (hx.th h).2
  rcases h1 with rfl | rfl | rfl | rfl | rfl | rfl | rfl | rfl | rfl | rfl | rfl | rfl | rfl | rfl | rfl | rfl | rfl
  · have k : kn x = 0 := by simpa [suB] using hs
    refine to3 (by omega) ?_
    rw [e0 k]
    exact r_mk0 (b := 0) hN (by omega) H
  · have k : kn x = 0 := by simpa [suB] using hs
    refine to3 (by omega) ?_
    rw [e0 k]
    exact r_mk0 (b := 1) hN (by omega) H
  · have k : kn x = 0 := by simpa [suB] using hs
    refine to3 (by omega) ?_
    rw [e0 k]
    exact r_mk0 (b := 2) hN (by omega) H
  · have k : kn x = 1 := by simpa [suB] using hs
    obtain ⟨a, e, La⟩ := th (by omega)
    refine to3 (by omega) ?_
    rw [e]
    exact r_mk4 hN H La k wx
  · have k : 0 < kn x := by simpa [suB] using hs
    exact to4 (by omega) (A.1 (by omega))
  · have k : kn x = 2 := by simpa [suB] using hs
    exact to4 (by omega) (A.2.2.1 k)
  · exact to4 (by omega) A.2.1
  · have k : kn x < 3 := by simpa [suB] using hs
    exact to4 (by omega) (r_dgs (b := 9) hN (by omega) H hx rfl wx (by omega) (by omega))
  · have k : kn x = 1 ∨ kn x = 2 := by simpa [suB] using hs
    exact to4 (by omega) (r_dgs (b := 10) hN (by omega) H hx rfl wx (by omega) (by omega))
  · have k : kn x = 1 ∨ kn x = 2 := by simpa [suB] using hs
    exact to4 (by omega) (r_dgs (b := 11) hN (by omega) H hx rfl wx (by omega) (by omega))
  · have k : kn x = 1 ∨ kn x = 2 := by simpa [suB] using hs
    exact to4 (by omega) (r_eachR (b := 12) hN (by omega) H hx rfl wx (by omega))
  · have k : kn x = 1 ∨ kn x = 2 := by simpa [suB] using hs
    exact to4 (by omega) (r_eachR (b := 13) hN (by omega) H hx rfl wx (by omega))
  · have k : kn x = 1 := by simpa [suB] using hs
    exact to4 (by omega) (r_eachR (b := 14) hN (by omega) H hx rfl wx (by omega))
  · have k : 0 < kn x := by simpa [suB] using hs
    exact to4 (by omega) (A.2.2.2 (by omega))
  · have k : 1 < kn x := by simpa [suB] using hs
    obtain ⟨a, e, La⟩ := th (by omega)
    refine to5 (by omega) ?_
    rw [e]
    exact r_flat hN H La (by omega) wx dx
  · have k : kn x = 2 := by simpa [suB] using hs
    obtain ⟨a, e, La⟩ := th (by omega)
    refine to5 (by omega) ?_
    rw [e]
    exact r_turn hN H La k wx
  · have k : kn x = 1 := by simpa [suB] using hs
    obtain ⟨a, e, La⟩ := th (by omega)
    refine to5 (by omega) ?_
    rw [e]
    exact r_grp hN H (lay1 La k) (rv_wf k wx)
end RB1
