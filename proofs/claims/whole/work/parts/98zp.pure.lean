/-! ===== PURE: run (119): back in the caller ===== -/
section RET
variable {N : Nat} {X : Nat → Option zz_C} {t0 t t1 t2 : cS} {s0 s s1 s2 : mS} {u w f p h fu m m' d d' n k b j m1 m2 d1 d2 : Nat} {code : List Ins} {Fs : List Fn} {T : Ty} {out : List Int32} {G F G1 : List Fm} {sh S0 : Nat → Option Nod} {vs vs1 : List (Option Nod)} {I J I1 I2 : List It} {q z z' : Int32} {x : Nod} {v : Int64} {L : List Nat} {g : Fn}
theorem CK.ret (K : CK code Fs fu ((m, d, vs, I) :: (m1, d1, vs1, I1) :: G1) sh T out n) (ty : tyA code (m2, d2, vs1, I2)) (hi : inF code Fs (m2, d2, vs1, I2)) (hg : gdS (cStk ((m2, d2, vs1, I2) :: G1))) (hp : k + crL I2 + pvI I + pvI I1 ≤ 4 + crL I + crL I1 + pvI I2) (h5 : n5I I2 ≤ n5I I + n5I I1) : CK code Fs fu ((m2, d2, vs1, I2) :: G1) sh T out (n + k) := by
  obtain ⟨⟨h1, h2⟩, h3, ⟨a, G', e, t1, t2, t3⟩, h6, h7, h8, h9⟩ := K
  cases e
  refine ⟨⟨h1, h2⟩, ?_, ⟨_, G1, rfl, ty, hi, fun a ha => t3 a (List.mem_cons_of_mem _ ha)⟩, hg, h7, ?_, ?_⟩
  · have h3 : G1.length + 1 + 1 ≤ 10 := h3
    show G1.length + 1 ≤ 10
    omega
  · have h8 : n + (4 + crL I + (4 + crL I1 + cr G1)) ≤ 20 * T.1 + 60 * T.2.1 + (pvI I + (pvI I1 + pv G1)) + 4 := h8
    show n + k + (4 + crL I2 + cr G1) ≤ 20 * T.1 + 60 * T.2.1 + (pvI I2 + pv G1) + 4
    omega
  · have h9 : out.length + 9100 * (n5I I + (n5I I1 + n5 G1)) ≤ 9100 * T.1 := h9
    show out.length + 9100 * (n5I I2 + n5 G1) ≤ 9100 * T.1
    omega
/-- what is known of a call that waits -/
theorem plF (hP : PGc code Fs) (hi : inF code Fs (m1, d1, vs1, I1)) : ∃ g, PL code Fs m1 vs1 I1 g := by
  obtain ⟨g, g1, g2, g3, g4, g5⟩ := hi
  have hF := hP.1 g g1
  have g4 : vs1.length = g.2.2.2.1 := g4
  have g2 : g.2.2.2.2.1 ≤ m1 := g2
  have g3 : m1 < g.2.2.2.2.2 := g3
  refine ⟨g, g1, ⟨g2, g3, by have := hF.2.1; omega⟩, ⟨g4, by rw [g4]; exact hF.2.2.2.2.2.2.1.2.1⟩, g5, by rw [g4]; exact hF.2.2.2.1 m1 g2 g3, fun q => ?_, hF.2.2.2.2.1⟩
  by_cases e : m1 = g.2.2.2.2.2 - 1
  · exact absurd (by rw [e]; exact hF.2.2.2.2.2.1) q
  · omega
theorem nxF (hP : PGc code Fs) (hm : m1 < code.length) (hl : lyo (code.take m1) = some L) : ∃ L', eff (inA code m1) L = some L' ∧ lyo (code.take (m1 + 1)) = some L' := by
  obtain ⟨L', h1, -⟩ := hgt (m := m1 + 1) hP.2.2.1 hP.2.2.2.2.2
  exact ⟨L', by rw [← lyo_s hm hl]; exact h1, h1⟩
/-- nothing is owed under what is given -/
theorem givI (K : CK code Fs fu ((m, 0, vs, I) :: G) sh T out n) (P : PL code Fs m vs I g) (ho : (inA code m).1 = 20) : ∃ x j I', I = (0, [x], j) :: I' ∧ pvI I' = 0 ∧ (wfN x ∧ x.1 ≤ 4) := by
  obtain ⟨L2, z3, z4⟩ := K.nxt
  have key : (∃ M, kd I = 0 :: 5 :: M) ∨ kd I = [0] := by
    generalize inA code m = c at *
    obtain ⟨o', jj, r0, aa, pp, xx, yy⟩ := c
    have z : o' = 20 := ho
    subst z
    have z3 : (match (generalizing := false) kd I with | 0 :: 5 :: M => some M | [0] => some [] | _ => none) = some L2 := z3
    split at z3
    · rename_i M hM
      exact Or.inl ⟨M, hM⟩
    · rename_i hM
      exact Or.inr hM
    · cases z3
  have fin : ∀ {L : List Nat}, kd I = 0 :: L → ∃ x j I', I = (0, [x], j) :: I' ∧ kd I' = L ∧ (wfN x ∧ x.1 ≤ 4) := fun {L} e => by
    obtain ⟨x, j, I', q1, q2, q3⟩ := kdV0 e P.2.2.2.1
    refine ⟨x, j, I', q1, q2, ?_⟩
    refine K.2.2.2.1 x ?_
    rw [q1, cStk_cons (m' := m) (d' := 0)]
    exact List.mem_append_left _ List.mem_cons_self
  rcases key with ⟨M, e⟩ | e
  · obtain ⟨x, j, I', q1, q2, q3⟩ := fin e
    obtain ⟨y, I2, r1, r2, r3⟩ := kdC q2
    exact ⟨x, j, I', q1, by rw [r1]; exact pv5 (by omega), q3⟩
  · obtain ⟨x, j, I', q1, q2, q3⟩ := fin e
    refine ⟨x, j, I', q1, ?_, q3⟩
    cases I' with
    | nil => rfl
    | cons a I' => cases q2
end RET
