/-! ===== PURE: the whole (3): the beginning ===== -/
theorem k0_q : kQ t0 ≤ 400000 := by decide +kernel
theorem k0_wd : ∀ w : Fin 41, s0.2.2.2 0 w.1 = Int64.ofNat (evB 27 (wd w.1)) := by decide +kernel
theorem k0_wn : ∀ w : Fin 30, s0.2.2.1 1 w.1 = Int32.ofNat (wnt w.1) := by decide +kernel
theorem k0_sl : ∀ j : Fin 8, s0.2.2.1 47 (2410 * j.1) = -1 := by decide +kernel
theorem k0_LI : LI t0 s0 12 21 0 := by
  refine ⟨rfl, rfl, Or.inl ⟨rfl, rfl⟩, ⟨⟨⟨rfl, rfl, ?_, ?_⟩, ⟨rfl, rfl, rfl, ?_, ?_⟩, ⟨rfl, rfl, ?_, ?_⟩, rfl⟩, rfl, rfl, rfl, rfl, rfl⟩, ⟨⟨⟨rfl, rfl, ?_, ?_⟩, ⟨rfl, rfl, rfl, ?_, ?_⟩, ⟨rfl, rfl, ?_, ?_⟩, rfl⟩, rfl, rfl, rfl, rfl, rfl⟩, fun w hw => k0_wd ⟨w, hw⟩, fun w hw => k0_wn ⟨w, hw⟩, ⟨[], rfl, Nat.zero_le _, fun i hi => absurd hi (Nat.not_lt_zero _)⟩, rfl, by omega⟩
  · show 1 ≤ 32; omega
  · show 32 < 13000; omega
  · show 1 ≤ 8; omega
  · show 8 < 13000; omega
  · show 1 ≤ 32; omega
  · show 32 < 13000; omega
  · show 1 ≤ 32; omega
  · show 32 < 13000; omega
  · show 1 ≤ 8; omega
  · show 8 < 13000; omega
  · show 1 ≤ 32; omega
  · show 32 < 13000; omega
theorem k0_PGI : PGI t0 s0 12 0 := by
  refine ⟨[], [], ⟨rfl, Or.inl rfl, rfl, by omega, rfl⟩, ⟨rfl, fun i hi => absurd hi (Nat.not_lt_zero _), rfl, rfl, Nat.zero_le _, ?_, ?_⟩, ⟨rfl, by decide, Nat.le_refl _, rfl, rfl, rfl, rfl, rfl, fun k hk => absurd hk (Nat.not_lt_zero _)⟩, fun i hi => absurd hi (Nat.not_lt_zero _), fun k hk => absurd hk (Nat.not_lt_zero _), fun f hf => (by cases hf), fun m hm => absurd hm (Nat.not_lt_zero _), rfl, ?_, by decide, by decide⟩
  · show 1 ≤ 32; omega
  · show 32 < 13000; omega
  · intro i hi
    cases hi
theorem k0_iS : iS (fun _ => none) 30 0 (fun _ => 0) t0 s0 := by
  refine ⟨by omega, rfl, rfl, rfl, ⟨⟨rfl, rfl, fun j hj => ?_⟩, by show 30 < 111; omega⟩, fun j hj => ⟨⟨rfl, Nat.zero_le _, fun i hi => absurd hi (Nat.not_lt_zero _)⟩, k0_sl ⟨j, hj⟩⟩, fun j x q => (by cases q), fun m hm σ q => (by cases q), fun m hm => absurd hm (Nat.not_lt_zero _)⟩
  have : j = 0 ∨ j = 1 ∨ j = 2 ∨ j = 3 ∨ j = 4 ∨ j = 5 ∨ j = 6 ∨ j = 7 := by omega
  rcases this with q | q | q | q | q | q | q | q <;> subst q <;> exact (by show 4 ≤ 3000; omega)
theorem InvR_0 : InvR 512 t0 s0 := by
  have hr : rmK t0 := by
    refine rmK_of ?_ ?_
    · show 111 + 200 < 1048576; omega
    · show 64 ≤ 600; omega
  refine ⟨Nat.le_refl _, fun _ => none, 30, 0, fun _ => 0, 12, 21, 0, [], ⟨⟨0, 320, ⟨rfl, rfl, rfl, fun i hi => absurd hi (Nat.not_lt_zero _), fun i => rfl⟩, Nat.zero_le _, rfl, Or.inl rfl⟩, ⟨rfl, rfl⟩, k0_LI, k0_PGI, fun _ => rfl⟩, ⟨rfl, fun q => absurd rfl q⟩, k0_iS, ⟨⟨rfl, fun i hi => absurd hi (Nat.not_lt_zero _), fun i => rfl, Or.inl (Nat.zero_le _), Or.inl rfl, rfl, hr⟩, ⟨rfl, fun i hi => absurd hi (Nat.not_lt_zero _)⟩, Nat.zero_le _⟩, ⟨⟨?_, ?_, ?_, ?_, hr⟩, ⟨⟨rfl, rfl, rfl, rfl, rfl⟩, ⟨?_, ?_⟩, rfl, rfl, ?_, ?_⟩⟩, ?_, ?_⟩
  · show 1 ≤ 32; omega
  · show 1 ≤ 128; omega
  · show 128 < 350000; omega
  · show 32 < 130000; omega
  · show 1 ≤ 32; omega
  · show 32 ≤ 40000; omega
  · show 1 ≤ 8; omega
  · show 8 ≤ 1000; omega
  · have e : kN t0 = 111 := rfl
    rw [e]
    exact Nat.le_trans (Nat.le_add_right 111 (40 * (512 - 512))) (Nat.le_add_right _ _)
  · exact Nat.le_trans (Nat.le_trans k0_q (Nat.le_add_right 400000 (9700 * (512 - 512)))) (Nat.le_add_right _ _)
/-- lw_Pure, but for the outside -/
theorem lw_pure0 : InvR 512 t0 s0 ∧ (∀ (X : Nat → Option zz_C) (n : Nat) (t : cS) (s : mS) (op a1 a2 a3 a4 a5 : Int32), oX 700000 X → oY X → oZ X → InvR (n + 1) t s → ∃ t' s', lwC 700000 X op.toInt.toNat a1 a2 a3 a4 a5 t s t' s' ∧ InvR n t' s') ∧ ∀ n t s, InvR n t s → kN t ≤ 600000 ∧ kQ t ≤ 7290000 := ⟨InvR_0, fun _ _ _ _ op _ _ _ _ _ hX hY hZ hI => lw_step (Nat.le_refl _) hX hY hZ hI op.toInt.toNat, fun _ _ _ h => h.bd⟩
