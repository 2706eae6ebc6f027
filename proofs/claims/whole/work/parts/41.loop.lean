/-! ===== the law's loop, out of one step of both states ===== -/
section LY
variable {X : Nat → Option zz_C} {d N L : Nat} {xs : Nat → Int32}
theorem i32_and31 (x : Int32) : 0 ≤ (x &&& 31).toInt ∧ (x &&& 31).toInt < 32 := by
  have h : (x &&& 31).toBitVec.toNat ≤ 31 := by
    rw [Int32.toBitVec_and, BitVec.toNat_and]
    exact Nat.and_le_right
  have e : (x &&& 31).toInt = ((x &&& 31).toBitVec.toNat : Int) := by
    show (x &&& 31).toBitVec.toInt = _
    rw [BitVec.toInt_eq_toNat_of_lt (by omega)]
  omega
theorem lw_len (hX : X 0 = some (.inl (0, L, .inl xs))) : hlen X [] zz_out = some (Int32.ofNat L) := by
  unfold hlen zz_rd
  rw [if_neg (Nat.lt_irrefl _), Nat.sub_self, hX]
  dsimp only
  rw [if_pos (Or.inl (by decide))]
theorem i32_nat {m : Nat} (hm : m ≤ 100000) : (Int32.ofNat m).toInt = (m : Int) := Int32.toInt_ofNat_of_lt (by omega)
theorem lw_at (hX : X 0 = some (.inl (0, L, .inl xs))) {m : Nat} (hm : m < L) (hL : L ≤ 3072) : hai X [] zz_out (Int32.ofNat m) = some (xs m) := by
  have e : (Int32.ofNat m).toNatClampNeg = m := by
    show (Int32.ofNat m).toInt.toNat = m
    rw [i32_nat (by omega)]
    rfl
  have hq : ¬ (Int32.ofNat m < 0 ∨ L ≤ m) := fun q => by
    rcases q with q | q
    · have := Int32.lt_iff_toInt_lt.mp q
      rw [i32_nat (by omega)] at this
      have h0 : (0 : Int32).toInt = 0 := rfl
      omega
    · omega
  unfold hai zz_rd
  rw [if_neg (Nat.lt_irrefl _), Nat.sub_self, hX]
  dsimp only
  rw [e, if_pos ⟨rfl, hq⟩]
theorem i32_add {m k : Nat} : Int32.ofNat m + Int32.ofNat k = Int32.ofNat (m + k) := (Int32.ofNat_add m k).symm
set_option maxHeartbeats 1000000 in
theorem lw_loop (hX : X 0 = some (.inl (0, L, .inl xs))) (hL : L ≤ 3072) (Inv : Nat → cS → mS → Prop) (hstep : ∀ (n : Nat) (t : cS) (s : mS) (op a1 a2 a3 a4 a5 : Int32), 0 ≤ op.toInt → op.toInt < 32 → Inv (n + 1) t s → ∃ t' s', lwC N X op.toInt.toNat a1 a2 a3 a4 a5 t s t' s' ∧ Inv n t' s') :
    ∀ (n k : Nat) (t : cS) (s : mS) (h : zz_H), kR h t s → Inv n t s → L < 6 * k + 6 * n + 6 → 6 * k ≤ L + 6 → zz_J zp_P zt_tf zt_fd X (d + 400) zm_law 18 [(0, .ref zz_out), (1, .ref 0), (2, .ref 61), (3, .int (Int32.ofNat (6 * k)))] [] h (fun o h => o = .inl (some (.int 1)) ∧ ∃ n t s, kR h t s ∧ Inv n t s) := by
  intro n
  induction n with
  | zero =>
    intro k t s h hR hI hn hk
    refine zz_J.n 19 rfl rfl rfl ?_
    refine zz_J.n 20 rfl rfl rfl ?_
    refine zz_J.ln 21 rfl ((hx_ln (Nat.lt_irrefl _)).trans (lw_len hX)) rfl ?_
    refine zz_J.c 23 (.int 6) rfl rfl rfl rfl ?_
    refine zz_J.n 24 rfl rfl rfl ?_
    refine zz_J.b2 658 27 (A := Int32.ofNat L - 6 < Int32.ofNat (6 * k)) rfl rfl (by decide) rfl rfl (fun _ => ?_) (fun c => absurd ?_ c)
    · refine zz_J.c 659 (.int 1) rfl rfl rfl rfl ?_
      refine zz_J.ret rfl rfl rfl ?_
      exact ⟨rfl, 0, t, s, hR, hI⟩
    · rw [Int32.lt_iff_toInt_lt, Int32.toInt_sub, i32_nat (by omega), i32_nat (by omega)]
      show Int.bmod ((L : Int) - 6) (2 ^ 32) < _
      rw [Int.bmod_eq_of_le (by omega) (by omega)]
      omega
  | succ n ih =>
    intro k t s h hR hI hn hk
    refine zz_J.n 19 rfl rfl rfl ?_
    refine zz_J.n 20 rfl rfl rfl ?_
    refine zz_J.ln 21 rfl ((hx_ln (Nat.lt_irrefl _)).trans (lw_len hX)) rfl ?_
    refine zz_J.c 23 (.int 6) rfl rfl rfl rfl ?_
    refine zz_J.n 24 rfl rfl rfl ?_
    refine zz_J.b2 658 27 (A := Int32.ofNat L - 6 < Int32.ofNat (6 * k)) rfl rfl (by decide) rfl rfl (fun _ => ?_) (fun c => ?_)
    · refine zz_J.c 659 (.int 1) rfl rfl rfl rfl ?_
      refine zz_J.ret rfl rfl rfl ?_
      exact ⟨rfl, n + 1, t, s, hR, hI⟩
    · have hk6 : 6 * k + 6 ≤ L := by
        rw [Int32.lt_iff_toInt_lt, Int32.toInt_sub, i32_nat (by omega), i32_nat (by omega)] at c
        have c : ¬ Int.bmod ((L : Int) - 6) (2 ^ 32) < ((6 * k : Nat) : Int) := c
        rw [Int.bmod_eq_of_le (by omega) (by omega)] at c
        omega
      refine zz_J.n 28 rfl rfl rfl ?_
      refine zz_J.n 29 rfl rfl rfl ?_
      refine zz_J.ai 30 rfl ((hx_ai (Nat.lt_irrefl _)).trans (lw_at hX (m := 6 * k) (by omega) hL)) rfl ?_
      refine zz_J.c 32 (.int 31) rfl rfl rfl rfl ?_
      refine zz_J.n 33 rfl rfl rfl ?_
      obtain ⟨b1, b2⟩ := i32_and31 (xs (6 * k))
      obtain ⟨t', s', hC, hI'⟩ := hstep n t s (xs (6 * k) &&& 31) (xs (6 * k + 1)) (xs (6 * k + 2)) (xs (6 * k + 3)) (xs (6 * k + 4)) (xs (6 * k + 5)) b1 b2 hI
      refine lw_op hR ((congrArg _ i32_add).trans (lw_at hX (m := 6 * k + 1) (by omega) hL)) ((congrArg _ i32_add).trans (lw_at hX (m := 6 * k + 2) (by omega) hL)) ((congrArg _ i32_add).trans (lw_at hX (m := 6 * k + 3) (by omega) hL)) ((congrArg _ i32_add).trans (lw_at hX (m := 6 * k + 4) (by omega) hL)) ((congrArg _ i32_add).trans (lw_at hX (m := 6 * k + 5) (by omega) hL)) b1 hC (fun {h} hR' => ?_)
      refine zz_J.n 655 rfl rfl rfl ?_
      refine zz_J.n 18 rfl rfl rfl ?_
      have e : Int32.ofNat (6 * k) + Int32.ofInt 6 = Int32.ofNat (6 * (k + 1)) := (i32_add (m := 6 * k) (k := 6)).trans (by rw [Nat.mul_add])
      have := ih (k + 1) t' s' h hR' hI' (by omega) (by omega)
      rw [← e] at this
      exact zz_J.weak this rfl ⟨rfl, rfl, rfl, rfl, trivial⟩
end LY
