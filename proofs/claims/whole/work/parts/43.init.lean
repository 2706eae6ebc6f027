/-! ===== both states at the start ===== -/
def s0 : mS := (fun q => if q = 45 then (-1) else if q = 46 then (-1) else if q = 67 then (-1) else 0, fun _ => 0, fun q => if q = 1 then (upd (upd (upd (upd (upd (upd (upd (upd (upd (upd (upd (upd (upd (upd (upd (upd (upd (upd (upd (upd (upd (upd (upd (upd (upd (upd (upd (upd (upd (upd (fun _ => 0) 0 1) 1 1) 2 1) 3 2) 4 1) 5 1) 6 1) 7 1) 8 1) 9 1) 10 1) 11 1) 12 1) 13 1) 14 1) 15 1) 16 1) 17 1) 18 1) 19 2) 20 2) 21 2) 22 2) 23 2) 24 2) 25 2) 26 2) 27 2) 28 2) 29 2) else if q = 47 then (upd (upd (upd (upd (upd (upd (upd (upd (fun _ => 0) 0 (-1)) 2410 (-1)) 4820 (-1)) 7230 (-1)) 9640 (-1)) 12050 (-1)) 14460 (-1)) 16870 (-1)) else fun _ => 0, fun q => if q = 0 then (vp_updL (vp_updL (vp_updL (vp_updL (vp_updL (vp_updL (vp_updL (vp_updL (vp_updL (vp_updL (vp_updL (vp_updL (vp_updL (vp_updL (vp_updL (vp_updL (vp_updL (vp_updL (vp_updL (vp_updL (vp_updL (vp_updL (vp_updL (vp_updL (vp_updL (vp_updL (vp_updL (vp_updL (vp_updL (vp_updL (vp_updL (vp_updL (vp_updL (vp_updL (vp_updL (vp_updL (vp_updL (vp_updL (vp_updL (vp_updL (vp_updL (fun _ => 0) 0 176) 1 249) 2 107681) 3 12387497) 4 4797) 5 257) 6 13903) 7 261347000) 8 9592700) 9 15091) 10 419) 11 13550) 12 188623) 13 315749) 14 151150) 15 365869) 16 1887) 17 381245) 18 334901377) 19 223456) 20 14431) 21 9528) 22 9734) 23 376205) 24 385418) 25 4075223) 26 40187) 27 126893) 28 409469) 29 4085899) 30 208022) 31 394691) 32 92275) 33 2774) 34 321581) 35 125041) 36 11695) 37 8399691) 38 375062) 39 99233) 40 129361) else fun _ => 0)
def t0 : cS := (fun k f => if k = 0 ∧ f = 5 then (-1) else if k = 0 ∧ f = 6 then (-1) else if k = 48 ∧ f = 7 then (-1) else 0, fun _ _ => 0, fun k f => if k = 0 then (if f = 3 then some 12 else if f = 4 then some 21 else if f = 7 then some 30 else none) else none, fun k => (if k = 1 then 320 else if k = 4 then 32 else if k = 5 then 32 else if k = 8 then 8 else if k = 10 then 8 else if k = 11 then 8 else if k = 13 then 32 else if k = 14 then 32 else if k = 15 then 32 else if k = 17 then 12 else if k = 18 then 12 else if k = 19 then 12 else if k = 20 then 12 else if k = 22 then 32 else if k = 23 then 32 else if k = 24 then 32 else if k = 26 then 12 else if k = 27 then 12 else if k = 28 then 12 else if k = 29 then 12 else if k = 46 then 64 else if k = 47 then 10 else if k = 51 then 8 else if k = 53 then 10 else if k = 54 then 10 else if k = 55 then 8 else if k = 56 then 8 else if k = 57 then 8 else if k = 60 then 64 else if k = 2000610 then 8 else 4, fun _ => 0), fun k => (if k = 6 then 32 else if k = 7 then 14 else if k = 9 then 8 else if k = 16 then 12 else if k = 25 then 12 else if k = 43 then 128 else if k = 44 then 32 else if k = 50 then 8 else if k = 52 then 32 else 0, fun _ => 0), fun _ => none, fun k => if 2000600 ≤ k ∧ k < 2000620 then 30 + (k - 2000600) else k, 0, fun k => decide (k = 30), 111, zz_sl zt_nf zv_h)
def w0 (x : Nat) : Nat := if x = 30 then 122 else if 31 ≤ x ∧ x ≤ 40 then 4 * (2000600 + (x - 30)) + 1 else if 61 ≤ x then 4 * (x - 61) + 3 else if x = 0 ∨ x = 2 ∨ x = 3 ∨ x = 12 ∨ x = 21 ∨ x = 42 ∨ x = 45 ∨ x = 48 ∨ x = 49 ∨ x = 58 ∨ x = 59 then 4 * x else 4 * x + 1
set_option maxRecDepth 100000 in
theorem k0_m : zv_h = zv_h.take 61 ++ mC s0 := by rfl
set_option maxRecDepth 100000 in
theorem k0_l : (zv_h.take 61).length = 61 := by rfl
set_option maxRecDepth 100000 in
theorem k0_n : zv_h.length = 111 := by rfl
set_option maxRecDepth 100000 in
theorem k0_o : ∀ k c, kVo t0 k = some c → zv_h[k]? = some c ∧ w0 k = 4 * k := by
  intro k c hk
  unfold kVo at hk
  split at hk <;> first | (cases hk; exact ⟨rfl, rfl⟩) | (cases hk; done)
set_option maxRecDepth 100000 in
theorem k0_a : ∀ k c, kVa0 t0 k = some c → zv_h[kD t0 k]? = some c ∧ w0 (kD t0 k) = 4 * k + 1 := by
  intro k c hk
  unfold kVa0 at hk
  split at hk <;> first | (cases hk; exact ⟨rfl, rfl⟩) | (cases hk; done)
set_option maxRecDepth 100000 in
theorem k0_r : ∀ j, j < 8 → zv_h[32 + j]? = some (.inl (0, 4, .inl fun _ => 0)) := by
  intro j hj
  have : j = 0 ∨ j = 1 ∨ j = 2 ∨ j = 3 ∨ j = 4 ∨ j = 5 ∨ j = 6 ∨ j = 7 := by omega
  rcases this with rfl | rfl | rfl | rfl | rfl | rfl | rfl | rfl <;> rfl
set_option maxRecDepth 100000 in
theorem k0_40 : zv_h[40]? = some (.inl (0, 8, .inl fun _ => 0)) := by rfl
set_option maxRecDepth 100000 in
theorem k0_31 : zv_h[31]? = some (.inl (5, 8, .inr (.inr (.inr (.inr (fun i => if i < 8 then some (32 + i) else none)))))) := by rfl
set_option maxRecDepth 100000 in
theorem k0_30 : zv_h[30]? = some (.inr (7, [.ref 31, .ref 40, .int 0])) := by rfl
theorem k0_D {j : Nat} (hj : j < 20) : kD t0 (2000600 + j) = 30 + j := (if_pos (by omega)).trans (by omega)
theorem k0_A {j : Nat} (h1 : 2 ≤ j) (h2 : j ≤ 10) : kA t0 (2000600 + j) = (if j = 10 then 8 else 4, fun _ => 0) := by
  show ((_ : Nat), _) = _
  congr 1
  rw [if_neg (by omega)]
  rw [if_neg (by omega)]
  rw [if_neg (by omega)]
  rw [if_neg (by omega)]
  rw [if_neg (by omega)]
  rw [if_neg (by omega)]
  rw [if_neg (by omega)]
  rw [if_neg (by omega)]
  rw [if_neg (by omega)]
  rw [if_neg (by omega)]
  rw [if_neg (by omega)]
  rw [if_neg (by omega)]
  rw [if_neg (by omega)]
  rw [if_neg (by omega)]
  rw [if_neg (by omega)]
  rw [if_neg (by omega)]
  rw [if_neg (by omega)]
  rw [if_neg (by omega)]
  rw [if_neg (by omega)]
  rw [if_neg (by omega)]
  rw [if_neg (by omega)]
  rw [if_neg (by omega)]
  rw [if_neg (by omega)]
  rw [if_neg (by omega)]
  rw [if_neg (by omega)]
  rw [if_neg (by omega)]
  rw [if_neg (by omega)]
  rw [if_neg (by omega)]
  rw [if_neg (by omega)]
  by_cases h : j = 10
  · rw [if_pos (by omega), if_pos h]
  · rw [if_neg (by omega), if_neg h]
theorem k0_Q : zz_sl zt_nf zv_h = kQ t0 := rfl
theorem k0_N : kN t0 = 111 := rfl
theorem k0_z : kN t0 < zz_out := by
  rw [k0_N]
  unfold zz_out
  omega
theorem k0_s1 : kVs t0 30 = .inr (7, [.ref 31, .ref 40, .int 0]) := by
  unfold kVs
  have e1 : kD t0 (2000000 + 20 * 30 + 1) = 31 := k0_D (j := 1) (by decide)
  have e2 : kD t0 (2000000 + 20 * 30 + 10) = 40 := k0_D (j := 10) (by decide)
  have e3 : kI t0 (3000000 + 30) 2 = 0 := rfl
  rw [e1, e2, e3]
theorem k0_w {j : Nat} (q1 : 0 < j) (q2 : j ≤ 10) : w0 (30 + j) = 4 * (2000600 + j) + 1 := by
  unfold w0
  rw [if_neg (by omega), if_pos (by omega)]
  omega
theorem k0_H {x : Nat} (h : ¬ x = 30) : kH t0 x = false := decide_eq_false h
theorem k0_H1 : kH t0 30 = true := rfl
theorem k0_va : ∀ k c, kVa t0 k = some c → zv_h[kD t0 k]? = some c ∧ w0 (kD t0 k) = 4 * k + 1 := by
  intro k c hk
  · unfold kVa at hk
    by_cases h1 : k < 2000000
    · rw [if_pos h1] at hk
      exact k0_a k c hk
    · rw [if_neg h1] at hk
      by_cases h2 : (k - 2000000) / 20 = 30
      · rw [h2, k0_H1, if_pos rfl] at hk
        obtain ⟨j, hj, rfl⟩ : ∃ j, j < 20 ∧ k = 2000600 + j := ⟨k - 2000600, by omega, by omega⟩
        have hj1 : (2000600 + j - 2000000) % 20 = j := by omega
        rw [hj1] at hk
        rw [k0_D hj]
        unfold kVaS at hk
        split at hk
        · rename_i hj2
          subst hj2
          cases hk
          refine ⟨?_, k0_w (by decide) (by decide)⟩
          have : (fun i => if i < 8 then some (kD t0 (2000600 + 1 + 1 + i)) else none) = (fun i => if i < 8 then some (32 + i) else none) := by
            funext i
            by_cases hi : i < 8
            · rw [show 2000600 + 1 + 1 + i = 2000600 + (2 + i) from by omega, k0_D (by omega), show 30 + (2 + i) = 32 + i from by omega]
            · rw [if_neg hi, if_neg hi]
          rw [this]
          exact k0_31
        · split at hk
          · cases hk
          · rename_i q1 q2
            unfold kint at hk
            rw [k0_A (by omega) (by omega)] at hk
            cases hk
            refine ⟨?_, k0_w (by omega) (by omega)⟩
            by_cases h10 : j = 10
            · subst h10
              exact k0_40
            · rw [if_neg h10, show 30 + j = 32 + (j - 2) from by omega]
              exact k0_r (j - 2) (by omega)
      · generalize (k - 2000000) / 20 = x at h2 hk
        rw [k0_H h2, if_neg (by decide)] at hk
        cases hk
theorem k0_vs : ∀ k, kH t0 k = true → zv_h[k]? = some (kVs t0 k) ∧ w0 k = 4 * k + 2 := by
  intro k hk
  have hk : decide (k = 30) = true := hk
  rw [decide_eq_true_eq] at hk
  subst hk
  exact ⟨by rw [k0_30, k0_s1], rfl⟩
theorem k0_ref : ∀ j, j < 50 → zv_h[61 + j]? = (mC s0)[j]? ∧ w0 (61 + j) = 4 * j + 3 := by
  intro j hj
  refine ⟨?_, ?_⟩
  · have e := k0_m
    have hl := k0_l
    generalize zv_h.take 61 = l at e hl
    rw [e, List.getElem?_append_right (by omega), hl]
    congr 1
    omega
  · unfold w0
    rw [if_neg (by omega), if_neg (by omega), if_pos (by omega)]
    omega
theorem kR_0 : kR zv_h t0 s0 := ⟨w0, k0_o, k0_va, k0_vs, k0_ref, k0_n, k0_Q, k0_z⟩
