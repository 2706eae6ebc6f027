/-! ===== PURE: run (150): every instruction ===== -/
section ALI
variable {N : Nat} {X : Nat → Option zz_C} {t0 t : cS} {s0 s : mS} {p h fu m d n : Nat} {code : List Ins} {Fs : List Fn} {T : Ty} {out : List Int32} {G : List Fm} {sh S0 : Nat → Option Nod} {vs : List (Option Nod)} {I : List It} {L L' : List Nat}
theorem eff26 {c : Ins} (e : eff c L = some L') : c.1 ≤ 26 := by
  obtain ⟨o', jj, r0, aa, pp, xx, yy⟩ := c
  show o' ≤ 26
  by_cases q : o' ≤ 26
  · exact q
  · exfalso
    obtain ⟨k, rfl⟩ : ∃ k, o' = k + 27 := ⟨o' - 27, by omega⟩
    cases e
theorem no25 {c : Ins} (h25 : c.1 = 25) (e : eff c (kd I) = some L') (hp : plI I) : False := by
  obtain ⟨o', jj, r0, aa, pp, xx, yy⟩ := c
  have h25 : o' = 25 := h25
  subst h25
  have e : (match kd I with | 9 :: M => some M | _ => none) = some L' := e
  cases I with
  | nil => cases e
  | cons a I =>
    have h5 := hp a List.mem_cons_self
    have e : (match a.1 :: kd I with | 9 :: M => some M | _ => none) = some L' := e
    split at e
    · rename_i M hM
      have := (List.cons.inj hM).1
      omega
    · cases e
theorem oW_Z (hX : oX N X) (hY : oY X) (hZ : oZ X) : oW X := fun b hb h5 => by
  have h1 := (hY (b + 11) (by omega)).1
  obtain ⟨h2, h3⟩ := hZ (b + 11) (by omega)
  have ew : wrdV b = zz_out + (b + 11 + 1) := by unfold wrdV; omega
  refine ⟨by rw [ew]; exact h1, by rw [ew, h2, Nat.add_comm], ?_⟩
  rw [Nat.add_comm 11 b, h3]
  have key : ∀ b : Fin 28, ¬ b.1 = 5 → swm (b.1 + 11) = swb b.1 := by decide
  rw [key ⟨b, hb⟩ h5]
theorem all_i (hN : 170000 ≤ N) (hX : oX N X) (hW : oW X) (C : CS t0 t p code Fs fu S0 ((m, d, vs, I) :: G) sh T out) (R : RSm s0 s h code Fs fu ((m, d, vs, I) :: G) sh T out) (K : CK code Fs fu ((m, d, vs, I) :: G) sh T out n) (h26 : ¬ (d = 0 ∧ (inA code m).1 = 26)) : GO N X t0 s0 p h code Fs fu S0 t s n := by
  obtain ⟨a', G', eF, ⟨L, hL, hty⟩, -, -⟩ := K.2.2.1
  have eF := List.cons.inj eF
  obtain ⟨rfl, rfl⟩ := eF
  rcases hty with ⟨hd, -, -⟩ | ⟨hd, -⟩
  · have hd : d = 0 := hd
    subst hd
    obtain ⟨L', e1, e2⟩ := K.nxt
    have hpl := K.ly0.2
    have h27 := eff26 e1
    have hc : ∀ k, k ≤ 25 → ¬ (inA code m).1 = k → True := fun _ _ _ => trivial
    by_cases c0 : (inA code m).1 = 0
    · exact i_0 hN C R K c0
    by_cases c1 : (inA code m).1 = 1
    · exact i_1 hN C R K c1
    by_cases c2 : (inA code m).1 = 2
    · exact i_2 C R K c2
    by_cases c3 : (inA code m).1 = 3
    · exact i_3 hN C R K c3
    by_cases c4 : (inA code m).1 = 4
    · exact i_4 hN C R K c4
    by_cases c5 : (inA code m).1 = 5
    · exact i_5 hN C R K c5
    by_cases c6 : (inA code m).1 = 6
    · exact i_6 hN C R K c6
    by_cases c7 : (inA code m).1 = 7
    · exact i_7 hN C R K c7
    by_cases c8 : (inA code m).1 = 8
    · obtain ⟨g, P⟩ := K.pl0
      obtain ⟨q1, q2, q3⟩ := P.2.2.2.2.1.2.2.1 c8
      exact i_8 hN hX hW C R K c8 ⟨q1, q2⟩ q3
    by_cases c9 : (inA code m).1 = 9
    · exact i_9 hN C R K c9
    by_cases c10 : (inA code m).1 = 10
    · exact i_10 hN C R K c10
    by_cases c11 : (inA code m).1 = 11
    · exact i_11 hN C R K c11
    by_cases c12 : (inA code m).1 = 12
    · exact i_12 hN C R K c12
    by_cases c13 : (inA code m).1 = 13
    · exact i_13 hN C R K c13
    by_cases c14 : (inA code m).1 = 14
    · exact i_14 C R K c14
    by_cases c15 : (inA code m).1 = 15 ∨ (inA code m).1 = 16
    · exact i_15 C R K c15
    by_cases c17 : (inA code m).1 = 17
    · exact i_17 hN C R K c17
    by_cases c18 : (inA code m).1 = 18
    · exact i_18 hN C R K c18
    by_cases c19 : (inA code m).1 = 19
    · exact i_19 hN C R K c19
    by_cases c20 : (inA code m).1 = 20
    · exact i_20 hN C R K c20
    by_cases c21 : (inA code m).1 = 21
    · exact i_21 hN C R K c21
    by_cases c22 : (inA code m).1 = 22
    · exact i_22 C R K c22
    by_cases c23 : (inA code m).1 = 23
    · exact i_23 C R K c23
    by_cases c24 : (inA code m).1 = 24
    · exact i_24 C R K c24
    by_cases c25 : (inA code m).1 = 25
    · exact (no25 c25 e1 hpl).elim
    exact absurd ⟨rfl, by omega⟩ h26
  · have hd : d = 1 := hd
    subst hd
    exact i_10n hN C R K
/-- a run of acts ends -/
theorem run_ends (hN : 170000 ≤ N) (hX : oX N X) (hW : oW X) (C : CS t0 t p code Fs fu S0 ((m, d, vs, I) :: G) sh T out) (R : RSm s0 s h code Fs fu ((m, d, vs, I) :: G) sh T out) (K : CK code Fs fu ((m, d, vs, I) :: G) sh T out n) : ENDS N X t0 s0 S0 t s n := main_run (fun n t s m d vs I G sh T out C R K h26 => all_i hN hX hW C R K h26) _ n t s m d vs I G sh T out (Nat.le_refl _) C R K
end ALI
