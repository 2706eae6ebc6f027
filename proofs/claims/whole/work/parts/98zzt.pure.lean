/-! ===== PURE: run (149): the main loop ===== -/
section MAI
variable {N : Nat} {X : Nat → Option zz_C} {t0 : cS} {s0 : mS} {p h fu : Nat} {code : List Ins} {Fs : List Fn} {S0 : Nat → Option Nod}
/-- both loops end -/
def ENDS (N : Nat) (X : Nat → Option zz_C) (t0 : cS) (s0 : mS) (S0 : Nat → Option Nod) (t : cS) (s : mS) (n : Nat) : Prop := ∃ qc qr t' s', qc ≤ 600020 - n ∧ qr ≤ 600020 - n ∧ (∀ Q, cf_141_L4 N X (Q + qc) 0 (Int32.ofNat n) t = some (t', .inl none)) ∧ (∀ Q x2, mf_68_L10 N (Q + qr) 0 x2 s = mf_68_320 N x2 s') ∧ FIN t0 t' s0 s' S0
theorem main_run (H : ∀ (n : Nat) (t : cS) (s : mS) (m d : Nat) (vs : List (Option Nod)) (I : List It) (G : List Fm) (sh : Nat → Option Nod) (T : Ty) (out : List Int32), CS t0 t p code Fs fu S0 ((m, d, vs, I) :: G) sh T out → RSm s0 s h code Fs fu ((m, d, vs, I) :: G) sh T out → CK code Fs fu ((m, d, vs, I) :: G) sh T out n → ¬ (d = 0 ∧ (inA code m).1 = 26) → GO N X t0 s0 p h code Fs fu S0 t s n) : ∀ (M n : Nat) (t : cS) (s : mS) (m d : Nat) (vs : List (Option Nod)) (I : List It) (G : List Fm) (sh : Nat → Option Nod) (T : Ty) (out : List Int32), (600000 - n) * 20001 + (code.length - m) ≤ M → CS t0 t p code Fs fu S0 ((m, d, vs, I) :: G) sh T out → RSm s0 s h code Fs fu ((m, d, vs, I) :: G) sh T out → CK code Fs fu ((m, d, vs, I) :: G) sh T out n → ENDS N X t0 s0 S0 t s n := by
  intro M
  induction M with
  | zero =>
    intro n t s m d vs I G sh T out hM C R K
    obtain ⟨u, w, f, g, C1, C2, C4, R1, R2, R4, P, hm, hcx, hrl, hG, ⟨b1, b2, b6⟩, hT, hol⟩ := open0 C R K
    omega
  | succ M ih =>
    intro n t s m d vs I G sh T out hM C R K
    obtain ⟨u, w, f, g, C1, C2, C4, R1, R2, R4, P, hm, hcx, hrl, hG, ⟨b1, b2, b6⟩, hT, hol⟩ := open0 C R K
    have hlen := code_len K.1.1.2.2.1 hcx
    by_cases c : d = 0 ∧ (inA code m).1 = 26
    · obtain ⟨c0, c1⟩ := c
      subst c0
      obtain ⟨I', C', R', K'⟩ := s_26 C R K c1
      exact ih n t s (m + 1) 0 vs I' G sh T out (by omega) C' R' K'
    · rcases H n t s m d vs I G sh T out C R K c with ⟨k, j, t', s', F', sh', T', out', k1, k2, k3, hQ, hS, C', R', K'⟩ | ⟨k, j, t', s', k1, k2, hQ, hS, hF⟩
      · obtain ⟨a, G', eF, -⟩ := K'.2.2.1
        obtain ⟨m', d', vs', I'⟩ := a
        subst eF
        obtain ⟨u', w', f', g', -, -, -, -, -, -, -, -, -, -, -, ⟨-, -, b6'⟩, -, -⟩ := open0 C' R' K'
        have hlt : (600000 - (n + k)) * 20001 + (code.length - m') ≤ M := by
          have h1 : (600000 - (n + k)) + 1 ≤ 600000 - n := by omega
          have h2 := Nat.mul_le_mul_right 20001 h1
          rw [Nat.add_mul] at h2
          have hM' := hM
          obtain ⟨A, hA⟩ : ∃ A, A = (600000 - (n + k)) * 20001 := ⟨_, rfl⟩
          obtain ⟨B, hB⟩ : ∃ B, B = (600000 - n) * 20001 := ⟨_, rfl⟩
          rw [← hA] at h2 ⊢
          rw [← hB] at h2 hM'
          clear hA hB hM ih hQ hS h1 b6'
          omega
        obtain ⟨qc, qr, t'', s'', e1, e2, e3, e4, e5⟩ := ih (n + k) t' s' m' d' vs' I' G' sh' T' out' hlt C' R' K'
        refine ⟨qc + k, qr + j, t'', s'', by omega, by omega, fun Q => ?_, fun Q x2 => ?_, e5⟩
        · rw [← Nat.add_assoc, hQ (Q + qc)]
          exact e3 Q
        · rw [← Nat.add_assoc, hS (Q + qr) x2]
          exact e4 Q x2
      · exact ⟨k, j, t', s', by omega, by omega, hQ, hS, hF⟩
end MAI
