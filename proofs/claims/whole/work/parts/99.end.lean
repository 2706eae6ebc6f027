theorem lw_pure : lw_Pure := ⟨700000, InvR, lw_pure0.1, fun L xs n t s op a1 a2 a3 a4 a5 _ _ hI => lw_pure0.2.1 (zt_X L xs) n t s op a1 a2 a3 a4 a5 (oX_X (by omega)) oY_X oZ_X hI, lw_pure0.2.2⟩
theorem i_vc : Claimed_1_1 ∧ Claimed_1_2 := i_vc0 lw_pure
