/-! ===== Arrays.copyOf ===== -/
section KU
variable {h : zz_H} {t : cS} {s : mS} {X : Nat → Option zz_C} {d : Nat} {M : zz_M} {pc : Nat} {lv : List (Nat × Value)} {st : List Value} {Q : zz_O → zz_H → Prop}
theorem kmin {n : Int32} {m : Nat} (hm : m ≤ 1000000) (hn : ¬ n < 0) : ¬ (if n < Int32.ofNat m then n else Int32.ofNat m) < 0 ∧ (if n < Int32.ofNat m then n else Int32.ofNat m).toNatClampNeg = Nat.min m n.toNatClampNeg := by
  have e1 : (Int32.ofNat m).toInt = (m : Int) := Int32.toInt_ofNat_of_lt (by omega)
  have hn0 : 0 ≤ n.toInt := Int.not_lt.mp (fun q => hn (Int32.lt_iff_toInt_lt.mpr q))
  have c1 : n.toNatClampNeg = n.toInt.toNat := rfl
  have c2 : (Int32.ofNat m).toNatClampNeg = m := by
    show (Int32.ofNat m).toInt.toNat = m
    rw [e1]
    rfl
  by_cases hlt : n < Int32.ofNat m
  · rw [if_pos hlt]
    have := Int32.lt_iff_toInt_lt.mp hlt
    rw [e1] at this
    refine ⟨hn, ?_⟩
    show _ = min m _
    omega
  · rw [if_neg hlt]
    have : ¬ n.toInt < (m : Int) := fun q => hlt (Int32.lt_iff_toInt_lt.mpr (by rw [e1]; exact q))
    refine ⟨fun q => ?_, ?_⟩
    · have := Int32.lt_iff_toInt_lt.mp q
      rw [e1] at this
      have h0 : (0 : Int32).toInt = 0 := rfl
      omega
    · rw [c2]
      show _ = min m _
      omega
theorem jA_jNI {z n : Nat} {g g' : Nat → Int32} : jA (jNI t z n g) 111 g' = jNI t z n g' := by
  have e : (fun a => if a = 111 then ((kA (jNI t z n g) 111).1, g') else kA (jNI t z n g) a) = (fun a => if a = 111 then (n, g') else kA t a) := by
    funext a
    by_cases ha : a = 111
    · rw [if_pos ha, if_pos ha]
      rfl
    · rw [if_neg ha, if_neg ha]
      exact if_neg ha
  show (kI t, kL t, kP t, (fun a => if a = 111 then ((kA (jNI t z n g) 111).1, g') else kA (jNI t z n g) a), _) = _
  rw [e]
  rfl
theorem jB_jNL {n : Nat} {g g' : Nat → Int64} : jB (jNL t n g) 111 g' = jNL t n g' := by
  have e : (fun a => if a = 111 then ((kB (jNL t n g) 111).1, g') else kB (jNL t n g) a) = (fun a => if a = 111 then (n, g') else kB t a) := by
    funext a
    by_cases ha : a = 111
    · rw [if_pos ha, if_pos ha]
      rfl
    · rw [if_neg ha, if_neg ha]
      exact if_neg ha
  show (kI t, kL t, kP t, kA t, (fun a => if a = 111 then ((kB (jNL t n g) 111).1, g') else kB (jNL t n g) a), _) = _
  rw [e]
  rfl
theorem kR.cpb (hR : kR h t s) {k0 x0 k1 x1 : Nat} {sp dp n : Int32} (e0 : kVa t k0 = some (.inl (2, (kA t k0).1, .inl (kA t k0).2))) (hx0 : kD t k0 = x0) (e1 : kVa t k1 = some (.inl (2, (kA t k1).1, .inl (kA t k1).2))) (hx1 : kD t k1 = x1) (g : ¬ sp < 0 ∧ ¬ dp < 0 ∧ ¬ n < 0 ∧ sp.toNatClampNeg + n.toNatClampNeg ≤ (kA t k0).1 ∧ dp.toNatClampNeg + n.toNatClampNeg ≤ (kA t k1).1 ∧ zz_bts (kA t k0).2 sp.toNatClampNeg n.toNatClampNeg = true) : ∃ h', hcp h x0 sp x1 dp n = some h' ∧ kR h' (jA t k1 (va_cpy (kA t k0).2 (kA t k1).2 sp.toNatClampNeg dp.toNatClampNeg n.toNatClampNeg)) s := by
  subst hx0
  subst hx1
  refine ⟨h.set (kD t k1) (.inl (2, (kA t k1).1, .inl (va_cpy (kA t k0).2 (kA t k1).2 sp.toNatClampNeg dp.toNatClampNeg n.toNatClampNeg))), ?_, hR.setA e1 (fun _ => rfl) (fun _ q => kVa_jA q) (kVa_jA_self e1) rfl rfl (fun _ => rfl) rfl rfl rfl⟩
  unfold hcp zz_acp
  simp only [hR.atA e0 rfl, hR.atA e1 rfl]
  rw [if_pos ⟨by decide, g⟩]
theorem kR.cpl (hR : kR h t s) {k0 x0 k1 x1 : Nat} {sp dp n : Int32} (e0 : kVa t k0 = some (.inl (1, (kB t k0).1, .inr (.inl (kB t k0).2)))) (hx0 : kD t k0 = x0) (e1 : kVa t k1 = some (.inl (1, (kB t k1).1, .inr (.inl (kB t k1).2)))) (hx1 : kD t k1 = x1) (g : ¬ sp < 0 ∧ ¬ dp < 0 ∧ ¬ n < 0 ∧ sp.toNatClampNeg + n.toNatClampNeg ≤ (kB t k0).1 ∧ dp.toNatClampNeg + n.toNatClampNeg ≤ (kB t k1).1) : ∃ h', hcp h x0 sp x1 dp n = some h' ∧ kR h' (jB t k1 (va_cpy (kB t k0).2 (kB t k1).2 sp.toNatClampNeg dp.toNatClampNeg n.toNatClampNeg)) s := by
  subst hx0
  subst hx1
  refine ⟨h.set (kD t k1) (.inl (1, (kB t k1).1, .inr (.inl (va_cpy (kB t k0).2 (kB t k1).2 sp.toNatClampNeg dp.toNatClampNeg n.toNatClampNeg)))), ?_, hR.setA e1 (fun _ => rfl) (fun _ q => kVa_jB q) (kVa_jB_self e1) rfl rfl (fun _ => rfl) rfl rfl rfl⟩
  unfold hcp zz_acp
  simp only [hR.atA e0 rfl, hR.atA e1 rfl]
  rw [if_pos ⟨by decide, g⟩]
theorem kq_copyi (pc' : Nat) {cp pc0 k x : Nat} {n : Int32} (hrow : zz_row M pc = some (pc0, .invokestatic cp, 3, 366, 2, 0)) (hp : pc + 3 = pc') (hR : kR h t s) (hk : k ≠ 111) (ha : kVa t k = some (.inl (0, (kA t k).1, .inl (kA t k).2))) (hx : kD t k = x) (e : ¬ n < 0 ∧ n.toNatClampNeg ≤ 1000000 ∧ (kA t k).1 ≤ 1000000 ∧ ¬ n = Int32.ofNat (kA t k).1 ∧ kN t + 1 < zz_out) (hcat : zz_cats st ≤ 8) (kk : ∀ {h : zz_H}, kR h (jNI t 1 n.toNatClampNeg (kcp 0 (kA t k).2 (Nat.min (kA t k).1 n.toNatClampNeg))) s → zz_J zp_P zt_tf zt_fd X (d + 9) M pc' lv (.ref (kN t) :: st) h Q) : zz_J zp_P zt_tf zt_fd X (d + 9) M pc lv (.int n :: .ref x :: st) h Q := by
  obtain ⟨g1, g2, g3, g4, g5⟩ := e
  have hm := kmin g3 g1
  refine zz_J.cl (M' := zm_366) (as := [.ref x, .int n]) (rest := st) pc' hrow rfl (show ¬ (0 : Int) < 0 by decide) (if_pos ⟨by simp, hcat⟩) rfl ⟨rfl, Nat.le_of_ble_eq_true rfl⟩ hp ?_
  refine zz_J.n 1 rfl rfl rfl ?_
  refine zz_J.n 2 rfl rfl rfl ?_
  refine zz_J.ln 3 rfl (hR.ln ha hx (by decide) rfl) rfl ?_
  refine zz_J.b2 14 6 (A := ¬ n = Int32.ofNat (kA t k).1) rfl (zz_cond_ne _ _) (by decide) rfl rfl (fun _ => ?_) (fun c => absurd g4 c)
  refine zz_J.n 15 rfl rfl rfl ?_
  have hl := hR.len
  have hna : hna h .int n = some (h ++ [.inl (0, n.toNatClampNeg, .inl fun _ => 0)]) := by
    unfold hna zz_newa
    dsimp only [zz_at4]
    rw [if_pos ⟨rfl, g1, g2, hR.room g5⟩]
  have hR1 := hR.nI (z := 1) (n := n.toNatClampNeg) (g := fun _ => 0) (Or.inl ⟨rfl, rfl⟩) g5
  refine zz_J.na 17 rfl hna rfl ?_
  rw [hl]
  refine zz_J.n 18 rfl rfl rfl ?_
  refine zz_J.n 19 rfl rfl rfl ?_
  refine zz_J.c 20 (.int 0) rfl rfl rfl rfl ?_
  refine zz_J.n 21 rfl rfl rfl ?_
  refine zz_J.c 22 (.int 0) rfl rfl rfl rfl ?_
  refine zz_J.n 23 rfl rfl rfl ?_
  have ha1 := (kVa_jNI (t := t) (z := 1) (n := n.toNatClampNeg) (g := fun _ => 0) hk).trans ha
  have hx1 : kD (jNI t 1 n.toNatClampNeg (fun _ => 0)) k = x := (if_neg hk).trans hx
  refine zz_J.ln 24 rfl (hR1.ln ha1 hx1 (by decide) rfl) rfl ?_
  refine zz_J.n 25 rfl rfl rfl ?_
  refine zz_J.spec 28 rfl rfl (by decide) rfl rfl rfl ?_
  have eA : kA (jNI t 1 n.toNatClampNeg (fun _ => 0)) k = kA t k := if_neg hk
  have ha2 : kVa (jNI t 1 n.toNatClampNeg (fun _ => 0)) k = some (.inl (0, (kA (jNI t 1 n.toNatClampNeg (fun _ => 0)) k).1, .inl (kA (jNI t 1 n.toNatClampNeg (fun _ => 0)) k).2)) := by
    rw [eA]
    exact ha1
  obtain ⟨h2, e2, hR2⟩ := hR1.cp (sp := 0) (dp := 0) (n := if n < Int32.ofNat (kA t k).1 then n else Int32.ofNat (kA t k).1) ha2 hx1 (k1 := 111) rfl rfl ⟨by decide, by decide, hm.1, by
    rw [eA, hm.2]
    show 0 + min _ _ ≤ _
    omega, by
    rw [hm.2]
    show 0 + min _ _ ≤ n.toNatClampNeg
    omega⟩
  refine zz_J.cp 31 rfl e2 (Nat.le_of_ble_eq_true rfl) rfl ?_
  refine zz_J.n 32 rfl rfl rfl ?_
  refine zz_J.ret rfl rfl rfl ?_
  refine kk ?_
  rw [eA, hm.2, jA_jNI] at hR2
  exact hR2
theorem kq_copyb (pc' : Nat) {cp pc0 k x : Nat} {n : Int32} (hrow : zz_row M pc = some (pc0, .invokestatic cp, 3, 365, 2, 0)) (hp : pc + 3 = pc') (hR : kR h t s) (hk : k ≠ 111) (ha : kVa t k = some (.inl (2, (kA t k).1, .inl (kA t k).2))) (hx : kD t k = x) (e : ¬ n < 0 ∧ n.toNatClampNeg ≤ 1000000 ∧ (kA t k).1 ≤ 1000000 ∧ ¬ n = Int32.ofNat (kA t k).1 ∧ kN t + 1 < zz_out ∧ zz_bts (kA t k).2 0 (Nat.min (kA t k).1 n.toNatClampNeg) = true) (hcat : zz_cats st ≤ 8) (kk : ∀ {h : zz_H}, kR h (jNI t 3 n.toNatClampNeg (kcp 0 (kA t k).2 (Nat.min (kA t k).1 n.toNatClampNeg))) s → zz_J zp_P zt_tf zt_fd X (d + 9) M pc' lv (.ref (kN t) :: st) h Q) : zz_J zp_P zt_tf zt_fd X (d + 9) M pc lv (.int n :: .ref x :: st) h Q := by
  obtain ⟨g1, g2, g3, g4, g5, g6⟩ := e
  have hm := kmin g3 g1
  refine zz_J.cl (M' := zm_365) (as := [.ref x, .int n]) (rest := st) pc' hrow rfl (show ¬ (0 : Int) < 0 by decide) (if_pos ⟨by simp, hcat⟩) rfl ⟨rfl, Nat.le_of_ble_eq_true rfl⟩ hp ?_
  refine zz_J.n 1 rfl rfl rfl ?_
  refine zz_J.n 2 rfl rfl rfl ?_
  refine zz_J.ln 3 rfl (hR.ln ha hx (by decide) rfl) rfl ?_
  refine zz_J.b2 14 6 (A := ¬ n = Int32.ofNat (kA t k).1) rfl (zz_cond_ne _ _) (by decide) rfl rfl (fun _ => ?_) (fun c => absurd g4 c)
  refine zz_J.n 15 rfl rfl rfl ?_
  have hl := hR.len
  have hna : hna h .byte n = some (h ++ [.inl (2, n.toNatClampNeg, .inl fun _ => 0)]) := by
    unfold hna zz_newa
    dsimp only [zz_at4]
    rw [if_pos ⟨rfl, g1, g2, hR.room g5⟩]
  have hR1 := hR.nI (z := 3) (n := n.toNatClampNeg) (g := fun _ => 0) (Or.inr ⟨rfl, rfl⟩) g5
  refine zz_J.na 17 rfl hna rfl ?_
  rw [hl]
  refine zz_J.n 18 rfl rfl rfl ?_
  refine zz_J.n 19 rfl rfl rfl ?_
  refine zz_J.c 20 (.int 0) rfl rfl rfl rfl ?_
  refine zz_J.n 21 rfl rfl rfl ?_
  refine zz_J.c 22 (.int 0) rfl rfl rfl rfl ?_
  refine zz_J.n 23 rfl rfl rfl ?_
  have ha1 := (kVa_jNI (t := t) (z := 3) (n := n.toNatClampNeg) (g := fun _ => 0) hk).trans ha
  have hx1 : kD (jNI t 3 n.toNatClampNeg (fun _ => 0)) k = x := (if_neg hk).trans hx
  refine zz_J.ln 24 rfl (hR1.ln ha1 hx1 (by decide) rfl) rfl ?_
  refine zz_J.n 25 rfl rfl rfl ?_
  refine zz_J.spec 28 rfl rfl (by decide) rfl rfl rfl ?_
  have eA : kA (jNI t 3 n.toNatClampNeg (fun _ => 0)) k = kA t k := if_neg hk
  have ha2 : kVa (jNI t 3 n.toNatClampNeg (fun _ => 0)) k = some (.inl (2, (kA (jNI t 3 n.toNatClampNeg (fun _ => 0)) k).1, .inl (kA (jNI t 3 n.toNatClampNeg (fun _ => 0)) k).2)) := by
    rw [eA]
    exact ha1
  obtain ⟨h2, e2, hR2⟩ := hR1.cpb (sp := 0) (dp := 0) (n := if n < Int32.ofNat (kA t k).1 then n else Int32.ofNat (kA t k).1) ha2 hx1 (k1 := 111) rfl rfl ⟨by decide, by decide, hm.1, by
    rw [eA, hm.2]
    show 0 + min _ _ ≤ _
    omega, by
    rw [hm.2]
    show 0 + min _ _ ≤ n.toNatClampNeg
    omega, by
    rw [eA, hm.2]
    exact g6⟩
  refine zz_J.cp 31 rfl e2 (Nat.le_of_ble_eq_true rfl) rfl ?_
  refine zz_J.n 32 rfl rfl rfl ?_
  refine zz_J.ret rfl rfl rfl ?_
  refine kk ?_
  rw [eA, hm.2, jA_jNI] at hR2
  exact hR2
theorem kq_copyl (pc' : Nat) {cp pc0 k x : Nat} {n : Int32} (hrow : zz_row M pc = some (pc0, .invokestatic cp, 3, 367, 2, 0)) (hp : pc + 3 = pc') (hR : kR h t s) (hk : k ≠ 111) (ha : kVa t k = some (.inl (1, (kB t k).1, .inr (.inl (kB t k).2)))) (hx : kD t k = x) (e : ¬ n < 0 ∧ n.toNatClampNeg ≤ 1000000 ∧ (kB t k).1 ≤ 1000000 ∧ ¬ n = Int32.ofNat (kB t k).1 ∧ kN t + 1 < zz_out) (hcat : zz_cats st ≤ 8) (kk : ∀ {h : zz_H}, kR h (jNL t n.toNatClampNeg (kcp 0 (kB t k).2 (Nat.min (kB t k).1 n.toNatClampNeg))) s → zz_J zp_P zt_tf zt_fd X (d + 9) M pc' lv (.ref (kN t) :: st) h Q) : zz_J zp_P zt_tf zt_fd X (d + 9) M pc lv (.int n :: .ref x :: st) h Q := by
  obtain ⟨g1, g2, g3, g4, g5⟩ := e
  have hm := kmin g3 g1
  refine zz_J.cl (M' := zm_367) (as := [.ref x, .int n]) (rest := st) pc' hrow rfl (show ¬ (0 : Int) < 0 by decide) (if_pos ⟨by simp, hcat⟩) rfl ⟨rfl, Nat.le_of_ble_eq_true rfl⟩ hp ?_
  refine zz_J.n 1 rfl rfl rfl ?_
  refine zz_J.n 2 rfl rfl rfl ?_
  refine zz_J.ln 3 rfl (hR.ln ha hx (by decide) rfl) rfl ?_
  refine zz_J.b2 14 6 (A := ¬ n = Int32.ofNat (kB t k).1) rfl (zz_cond_ne _ _) (by decide) rfl rfl (fun _ => ?_) (fun c => absurd g4 c)
  refine zz_J.n 15 rfl rfl rfl ?_
  have hl := hR.len
  have hna : hna h .long n = some (h ++ [.inl (1, n.toNatClampNeg, .inr (.inl fun _ => 0))]) := by
    unfold hna zz_newa
    dsimp only [zz_at4]
    rw [if_pos ⟨rfl, g1, g2, hR.room g5⟩]
  have hR1 := hR.nL (n := n.toNatClampNeg) (g := fun _ => 0) g5
  refine zz_J.na 17 rfl hna rfl ?_
  rw [hl]
  refine zz_J.n 18 rfl rfl rfl ?_
  refine zz_J.n 19 rfl rfl rfl ?_
  refine zz_J.c 20 (.int 0) rfl rfl rfl rfl ?_
  refine zz_J.n 21 rfl rfl rfl ?_
  refine zz_J.c 22 (.int 0) rfl rfl rfl rfl ?_
  refine zz_J.n 23 rfl rfl rfl ?_
  have ha1 := (kVa_jNL (t := t) (n := n.toNatClampNeg) (g := fun _ => 0) hk).trans ha
  have hx1 : kD (jNL t n.toNatClampNeg (fun _ => 0)) k = x := (if_neg hk).trans hx
  refine zz_J.ln 24 rfl (hR1.ln ha1 hx1 (by decide) rfl) rfl ?_
  refine zz_J.n 25 rfl rfl rfl ?_
  refine zz_J.spec 28 rfl rfl (by decide) rfl rfl rfl ?_
  have eA : kB (jNL t n.toNatClampNeg (fun _ => 0)) k = kB t k := if_neg hk
  have ha2 : kVa (jNL t n.toNatClampNeg (fun _ => 0)) k = some (.inl (1, (kB (jNL t n.toNatClampNeg (fun _ => 0)) k).1, .inr (.inl (kB (jNL t n.toNatClampNeg (fun _ => 0)) k).2))) := by
    rw [eA]
    exact ha1
  obtain ⟨h2, e2, hR2⟩ := hR1.cpl (sp := 0) (dp := 0) (n := if n < Int32.ofNat (kB t k).1 then n else Int32.ofNat (kB t k).1) ha2 hx1 (k1 := 111) rfl rfl ⟨by decide, by decide, hm.1, by
    rw [eA, hm.2]
    show 0 + min _ _ ≤ _
    omega, by
    rw [hm.2]
    show 0 + min _ _ ≤ n.toNatClampNeg
    omega⟩
  refine zz_J.cp 31 rfl e2 (Nat.le_of_ble_eq_true rfl) rfl ?_
  refine zz_J.n 32 rfl rfl rfl ?_
  refine zz_J.ret rfl rfl rfl ?_
  refine kk ?_
  rw [eA, hm.2, jB_jNL] at hR2
  exact hR2
/-- new Shelves -/
def kF (n : Nat) (a b : Value) : List zz_C := [.inr (7, [a, b, .int 0]), .inl (5, 8, .inr (.inr (.inr (.inr fun i => if i < 8 then some (n + 1 + 1 + i) else none)))), .inl (0, 4, .inl fun _ => 0), .inl (0, 4, .inl fun _ => 0), .inl (0, 4, .inl fun _ => 0), .inl (0, 4, .inl fun _ => 0), .inl (0, 4, .inl fun _ => 0), .inl (0, 4, .inl fun _ => 0), .inl (0, 4, .inl fun _ => 0), .inl (0, 4, .inl fun _ => 0)]
theorem kR.newSh (hR : kR h t s) (e : kN t + 11 < zz_out) : kR (h ++ (kF (kN t) (.ref (kN t + 1)) (.ref (kN t + 10)) ++ [.inl (0, 8, .inl fun _ => 0)])) (jSh t) s := by
  have hD : ∀ k, ¬ (2000000 + 20 * kN t ≤ k ∧ k < 2000000 + 20 * kN t + 20) → kD (jSh t) k = kD t k := fun k hk => if_neg hk
  have hD1 : ∀ j, j < 20 → kD (jSh t) (2000000 + 20 * kN t + j) = kN t + j := fun j hj => (if_pos (by omega)).trans (by omega)
  have hA : ∀ k, ¬ (2000000 + 20 * kN t ≤ k ∧ k < 2000000 + 20 * kN t + 20) → kA (jSh t) k = kA t k := fun k hk => if_neg hk
  have hI : ∀ k f, k ≠ 3000000 + kN t → kI (jSh t) k f = kI t k f := fun k f hk => if_neg (fun q => hk q.1)
  have hI1 : kI (jSh t) (3000000 + kN t) 2 = 0 := if_pos ⟨rfl, rfl⟩
  have hH : ∀ k, k ≠ kN t → kH (jSh t) k = kH t k := fun k hk => if_neg hk
  have hH1 : kH (jSh t) (kN t) = true := if_pos rfl
  obtain ⟨own, q1, q2, q3, q4, q5, q6, q7⟩ := hR
  have keep : ∀ {x : Nat} {c0 : zz_C} {F : List zz_C}, h[x]? = some c0 → (h ++ F)[x]? = some c0 ∧ x < kN t := fun {x c0 F} hx => by
    have hl := (List.getElem?_eq_some_iff.mp hx).1
    exact ⟨by rw [List.getElem?_append_left hl]; exact hx, by omega⟩
  have fresh : ∀ {F : List zz_C} (j : Nat), (h ++ F)[kN t + j]? = F[j]? := fun {F} j => by
    rw [List.getElem?_append_right (by omega)]
    congr 1
    omega
  have ho : ∀ x, x < kN t → (if x < kN t then own x else if x = kN t then 4 * kN t + 2 else 4 * (2000000 + 20 * kN t + (x - kN t)) + 1) = own x := fun x hx => if_pos hx
  refine ⟨fun x => if x < kN t then own x else if x = kN t then 4 * kN t + 2 else 4 * (2000000 + 20 * kN t + (x - kN t)) + 1, ?_, ?_, ?_, ?_, ?_, ?_, ?_⟩
  · intro k c hk
    rw [kVo_D (t := t) (fun k f hk => hI k f (by omega)) rfl rfl (fun j hj => hD j (by omega))] at hk
    obtain ⟨e1, o1⟩ := q1 k c hk
    obtain ⟨e2, n2⟩ := keep e1
    exact ⟨e2, (ho _ n2).trans o1⟩
  · intro k c hk
    by_cases hk0 : k < 2000000
    · have e1 : kVa (jSh t) k = kVa t k := by
        have e1 : kA (jSh t) k = kA t k := hA k (by omega)
        unfold kVa
        rw [if_pos hk0, if_pos hk0]
        unfold kVa0
        split <;> first | rfl | (unfold kint; rw [e1]; rfl) | (unfold kint; rw [e1]; done)
      rw [e1] at hk
      rw [hD k (by omega)]
      obtain ⟨e1, o1⟩ := q2 k c hk
      obtain ⟨e2, n2⟩ := keep e1
      exact ⟨e2, (ho _ n2).trans o1⟩
    · by_cases hk1 : (k - 2000000) / 20 = kN t
      · obtain ⟨j, hj, rfl⟩ : ∃ j, j < 20 ∧ k = 2000000 + 20 * kN t + j := ⟨(k - 2000000) % 20, by omega, by omega⟩
        have hj1 : (2000000 + 20 * kN t + j - 2000000) % 20 = j := by omega
        unfold kVa at hk
        rw [if_neg hk0, hk1, if_pos hH1, hj1] at hk
        rw [hD1 j hj, fresh j]
        unfold kVaS at hk
        have hown : (if kN t + j < kN t then own (kN t + j) else if kN t + j = kN t then 4 * kN t + 2 else 4 * (2000000 + 20 * kN t + (kN t + j - kN t)) + 1) = 4 * (2000000 + 20 * kN t + j) + 1 ∨ j = 0 := by
          by_cases h0 : j = 0
          · exact Or.inr h0
          · rw [if_neg (by omega), if_neg (by omega)]
            left
            omega
        split at hk
        · rename_i hj2
          subst hj2
          cases hk
          refine ⟨?_, hown.resolve_right (by decide)⟩
          have : (fun i => if i < 8 then some (kD (jSh t) (2000000 + 20 * kN t + 1 + 1 + i)) else none) = (fun i => if i < 8 then some (kN t + 1 + 1 + i) else none) := by
            funext i
            by_cases hi : i < 8
            · rw [if_pos hi, if_pos hi, show 2000000 + 20 * kN t + 1 + 1 + i = 2000000 + 20 * kN t + (2 + i) from by omega, hD1 _ (by omega), show kN t + (2 + i) = kN t + 1 + 1 + i from by omega]
            · rw [if_neg hi, if_neg hi]
          rw [this]
          rfl
        · split at hk
          · cases hk
          · rename_i h1 h2
            cases hk
            refine ⟨?_, hown.resolve_right (by omega)⟩
            have hv : kA (jSh t) (2000000 + 20 * kN t + j) = (if j = 10 then 8 else 4, fun _ => 0) := by
              refine (if_pos (by omega)).trans ?_
              by_cases h10 : j = 10
              · rw [if_pos (by omega), if_pos h10]
              · rw [if_neg (by omega), if_neg h10]
            rw [hv]
            have hj3 : j = 2 ∨ j = 3 ∨ j = 4 ∨ j = 5 ∨ j = 6 ∨ j = 7 ∨ j = 8 ∨ j = 9 ∨ j = 10 := by omega
            rcases hj3 with rfl | rfl | rfl | rfl | rfl | rfl | rfl | rfl | rfl <;> rfl
      · have e1 : kVa (jSh t) k = kVa t k := by
          have e1 : kA (jSh t) k = kA t k := hA k (by omega)
          unfold kVa
          rw [if_neg hk0, if_neg hk0, hH _ hk1]
          have e3 : kVaS (jSh t) k ((k - 2000000) % 20) = kVaS t k ((k - 2000000) % 20) := by
            by_cases h4 : (k - 2000000) % 20 = 1
            · have e7 : (fun i => if i < 8 then some (kD (jSh t) (k + 1 + i)) else none) = (fun i => if i < 8 then some (kD t (k + 1 + i)) else none) := by
                funext i
                by_cases h8 : i < 8
                · rw [hD (k + 1 + i) (by omega)]
                · rw [if_neg h8, if_neg h8]
              unfold kVaS
              rw [if_pos h4, if_pos h4, e7]
            · unfold kVaS kint
              rw [if_neg h4, if_neg h4, e1]
          rw [e3]
        rw [e1] at hk
        rw [hD k (by omega)]
        obtain ⟨e1, o1⟩ := q2 k c hk
        obtain ⟨e2, n2⟩ := keep e1
        exact ⟨e2, (ho _ n2).trans o1⟩
  · intro k hk
    by_cases hkn : k = kN t
    · subst hkn
      refine ⟨?_, ?_⟩
      · have := fresh (F := kF (kN t) (.ref (kN t + 1)) (.ref (kN t + 10)) ++ [.inl (0, 8, .inl fun _ => 0)]) 0
        refine Eq.trans this ?_
        unfold kVs
        rw [hD1 1 (by omega), hD1 10 (by omega), hI1]
        rfl
      · exact (if_neg (Nat.lt_irrefl _)).trans (if_pos rfl)
    · rw [hH k hkn] at hk
      obtain ⟨e1, o1⟩ := q3 k hk
      obtain ⟨e2, n2⟩ := keep (F := kF (kN t) (.ref (kN t + 1)) (.ref (kN t + 10)) ++ [.inl (0, 8, .inl fun _ => 0)]) e1
      have e8 : kVs (jSh t) k = kVs t k := by
        unfold kVs
        rw [hD _ (by omega), hD _ (by omega), hI _ _ (by omega)]
      rw [e8]
      exact ⟨e2, (ho _ n2).trans o1⟩
  · intro j hj
    obtain ⟨e1, o1⟩ := q4 j hj
    have hm : ∃ c0, (mC s)[j]? = some c0 := ⟨(mC s)[j]'(by rw [mC_len]; exact hj), List.getElem?_eq_getElem _⟩
    obtain ⟨c0, hc0⟩ := hm
    rw [hc0] at e1
    obtain ⟨e2, n2⟩ := keep (F := kF (kN t) (.ref (kN t + 1)) (.ref (kN t + 10)) ++ [.inl (0, 8, .inl fun _ => 0)]) e1
    rw [hc0]
    exact ⟨e2, (ho _ n2).trans o1⟩
  · rw [List.length_append, q5]
    rfl
  · rw [zz_sl_apps, q6]
    rfl
  · exact e
theorem kq_newSh (pc' : Nat) {cp cp2 pc0 pc1 pc2 a1 b1 nb : Nat} {nn n1 nn2 : Int} (hrow : zz_row M pc = some (pc0, .new cp, 3, 7, nb, nn)) (hrow1 : zz_row M (pc + 3) = some (pc1, .dup, 1, a1, b1, n1)) (hrow2 : zz_row M (pc + 4) = some (pc2, .invokespecial cp2, 3, 22, 0, nn2)) (hR : kR h t s) (e : kN t + 11 < zz_out) (h9 : ¬ nn = -9) (h2 : ¬ nn2 < 0) (h5 : ¬ nn2 = 5 ∧ ¬ nn2 = 2005) (hp : pc + 7 = pc') (hcat : zz_cats st ≤ 7) (kk : ∀ {h : zz_H}, kR h (jSh t) s → zz_J zp_P zt_tf zt_fd X (d + 9) M pc' lv (.ref (kN t) :: st) h Q) : zz_J zp_P zt_tf zt_fd X (d + 9) M pc lv st h Q := by
  have hl := hR.len
  have g1 : hnw h 7 = some (h ++ [.inr (7, zt_fd 7)]) := by
    unfold hnw
    rw [if_pos (by omega)]
  refine zz_J.nw (pc + 3) hrow h9 g1 rfl ?_
  rw [hl]
  refine zz_J.n (pc + 4) hrow1 rfl rfl ?_
  refine zz_J.cl (M' := zm_22) (as := [.ref (kN t)]) (rest := .ref (kN t) :: st) pc' hrow2 rfl h2 (if_pos ⟨Nat.zero_le _, by
    show zz_cats (.ref (kN t) :: st) ≤ 8
    unfold zz_cats at hcat ⊢
    rw [List.map_cons, List.sum_cons]
    show 1 + _ ≤ 8
    omega⟩) rfl ⟨rfl, Nat.le_of_ble_eq_true rfl⟩ (by omega) ?_
  refine zz_J.n 1 rfl rfl rfl ?_
  refine zz_J.spec 4 rfl rfl (by decide) rfl rfl rfl ?_
  refine zz_J.n 5 rfl rfl rfl ?_
  refine zz_J.c 7 (.int 8) rfl rfl rfl rfl ?_
  refine zz_J.c 8 (.int 4) rfl rfl rfl rfl ?_
  have hl1 : (h ++ [.inr (7, zt_fd 7)] : zz_H).length = kN t + 1 := by
    rw [List.length_append, hl]
    rfl
  have g2 : hmn (h ++ [.inr (7, zt_fd 7)]) 8 4 = some (h ++ kF (kN t) .null .null) := by
    unfold hmn zz_mna
    dsimp only
    rw [if_pos ⟨rfl, by decide, by decide, by decide, by decide, by
      rw [hl1]
      show kN t + 1 + 1 + 8 ≤ zz_out
      omega⟩]
    rw [hl1]
    dsimp only
    rw [List.append_assoc]
    rfl
  refine zz_J.mn 12 rfl g2 rfl ?_
  rw [hl1]
  have at0 : ∀ (F : zz_C) (G : List zz_C), zz_at (h ++ F :: G) (kN t) = some F := fun F G => by
    unfold zz_at
    rw [if_pos (by omega), List.getElem?_append_right (by omega), hl, Nat.sub_self]
    rfl
  have set0 : ∀ (F F' : zz_C) (G : List zz_C), (h ++ F :: G).set (kN t) F' = h ++ F' :: G := fun F F' G => by
    rw [List.set_append_right _ _ (by omega), hl, Nat.sub_self]
    rfl
  have g3 : hpv (h ++ kF (kN t) .null .null) (kN t) 7 0 (.ref (kN t + 1)) = some (h ++ kF (kN t) (.ref (kN t + 1)) .null) := by
    unfold hpv kF
    rw [at0]
    dsimp only
    rw [if_pos ⟨rfl, Nat.le_of_ble_eq_true rfl, rfl⟩, set0]
    rfl
  refine zz_J.pv 15 rfl g3 rfl ?_
  refine zz_J.n 16 rfl rfl rfl ?_
  refine zz_J.c 18 (.int 8) rfl rfl rfl rfl ?_
  have hl3 : (h ++ kF (kN t) (.ref (kN t + 1)) .null : zz_H).length = kN t + 10 := by
    rw [List.length_append, hl]
    rfl
  have g4 : hna (h ++ kF (kN t) (.ref (kN t + 1)) .null) .int 8 = some (h ++ (kF (kN t) (.ref (kN t + 1)) .null ++ [.inl (0, 8, .inl fun _ => 0)])) := by
    unfold hna zz_newa
    dsimp only [zz_at4]
    rw [if_pos ⟨rfl, by decide, by decide, by rw [hl3]; omega⟩]
    dsimp only
    rw [List.append_assoc]
    rfl
  refine zz_J.na 20 rfl g4 rfl ?_
  rw [hl3]
  have g5 : hpv (h ++ (kF (kN t) (.ref (kN t + 1)) .null ++ [.inl (0, 8, .inl fun _ => 0)])) (kN t) 7 1 (.ref (kN t + 10)) = some (h ++ (kF (kN t) (.ref (kN t + 1)) (.ref (kN t + 10)) ++ [.inl (0, 8, .inl fun _ => 0)])) := by
    unfold hpv kF
    rw [List.cons_append, at0]
    dsimp only
    rw [if_pos ⟨rfl, Nat.le_of_ble_eq_true rfl, rfl⟩, set0]
    rfl
  refine zz_J.pv 23 rfl g5 rfl ?_
  refine zz_J.ret rfl rfl rfl ?_
  exact kk (hR.newSh e)
end KU
