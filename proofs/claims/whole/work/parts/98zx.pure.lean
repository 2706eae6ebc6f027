/-! ===== PURE: run (127): a condition's end lies nowhere ===== -/
section SIL
variable {N : Nat} {X : Nat → Option zz_C} {t0 t : cS} {s0 s : mS} {p h fu m n : Nat} {code : List Ins} {Fs : List Fn} {T : Ty} {out : List Int32} {G : List Fm} {sh S0 : Nat → Option Nod} {vs : List (Option Nod)} {I : List It}
theorem s_26 (C : CS t0 t p code Fs fu S0 ((m, 0, vs, I) :: G) sh T out) (R : RSm s0 s h code Fs fu ((m, 0, vs, I) :: G) sh T out) (K : CK code Fs fu ((m, 0, vs, I) :: G) sh T out n) (ho : (inA code m).1 = 26) : ∃ I', CS t0 t p code Fs fu S0 ((m + 1, 0, vs, I') :: G) sh T out ∧ RSm s0 s h code Fs fu ((m + 1, 0, vs, I') :: G) sh T out ∧ CK code Fs fu ((m + 1, 0, vs, I') :: G) sh T out n := by
  obtain ⟨u, w, f, g, C1, C2, C4, R1, R2, R4, P, hm, hcx, hrl, hG, ⟨b1, b2, b6⟩, hT, hol⟩ := open0 C R K
  obtain ⟨hl, hp⟩ := K.ly0
  obtain ⟨L2, z3, z4⟩ := K.nxt
  have hnx := P.2.2.2.2.2.1 (by omega)
  have hpb := P.2.1
  have hI : kd I = 4 :: L2 := by
    generalize inA code m = c at *
    obtain ⟨o', jj, r0, aa, pp, xx, yy⟩ := c
    have z : o' = 26 := ho
    subst z
    have z3 : (match (generalizing := false) kd I with | 4 :: M => some M | _ => none) = some L2 := z3
    split at z3
    · rename_i M hM
      rw [hM, Option.some.inj z3]
    · cases z3
  obtain ⟨a, I', q1, q2, q3⟩ := kdC hI
  subst q1
  refine ⟨I', ⟨u, w, C1.no (m' := m + 1) (d' := 0) (Or.inl q2), C2, fun b G' e => ?_⟩, ⟨f, R1.no (m' := m + 1) (d' := 0) (Or.inl q2), R2.1, R2.2, fun b G' e => ?_⟩, K.to (k := 0) P (by omega) (by rw [q3]; exact z4) hp.tl P.2.2.2.1.2 rfl (gd_suf (m := m) (d := 0) (J := [a]) K.2.2.2.1) K.2.2.2.2.1 hT ?_ ?_⟩
  · cases e
    rw [C4]
    show Int32.ofNat (posC code m + 0) = Int32.ofNat (posC code (m + 1) + 0)
    rw [posC_s hm, show clen (inA code m) = 0 by unfold clen; rw [ho]; rfl]
  · cases e
    rw [R4]
    show Int32.ofNat (ob0 h + posR code m + 0) = Int32.ofNat (ob0 h + posR code (m + 1) + 0)
    rw [posR_s hm, show rlen (inA code m) = 0 by unfold rlen; rw [ho]; rfl]
    rfl
  · have e1 : crI a = 2 := by
      unfold crI
      rw [if_neg (by omega), if_pos (Or.inr q2)]
    rw [crL_c, pv5 (Or.inl q2), e1]
    omega
  · rw [n5I_c]
    omega
end SIL
