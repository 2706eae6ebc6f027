/-! ===== both states at the start ===== -/
def s0 : mS := (fun q => if q = 45 then (-1) else if q = 46 then (-1) else if q = 67 then (-1) else 0, fun _ => 0, fun q => if q = 1 then (upd (upd (upd (upd (upd (upd (upd (upd (upd (upd (upd (upd (upd (upd (upd (upd (upd (upd (upd (upd (upd (upd (upd (upd (upd (upd (upd (upd (upd (upd (fun _ => 0) 0 1) 1 1) 2 1) 3 2) 4 1) 5 1) 6 1) 7 1) 8 1) 9 1) 10 1) 11 1) 12 1) 13 1) 14 1) 15 1) 16 1) 17 1) 18 1) 19 2) 20 2) 21 2) 22 2) 23 2) 24 2) 25 2) 26 2) 27 2) 28 2) 29 2) else if q = 47 then (upd (upd (upd (upd (upd (upd (upd (upd (fun _ => 0) 0 (-1)) 2410 (-1)) 4820 (-1)) 7230 (-1)) 9640 (-1)) 12050 (-1)) 14460 (-1)) 16870 (-1)) else fun _ => 0, fun q => if q = 0 then (vp_updL (vp_updL (vp_updL (vp_updL (vp_updL (vp_updL (vp_updL (vp_updL (vp_updL (vp_updL (vp_updL (vp_updL (vp_updL (vp_updL (vp_updL (vp_updL (vp_updL (vp_updL (vp_updL (vp_updL (vp_updL (vp_updL (vp_updL (vp_updL (vp_updL (vp_updL (vp_updL (vp_updL (vp_updL (vp_updL (vp_updL (vp_updL (vp_updL (vp_updL (vp_updL (vp_updL (vp_updL (vp_updL (vp_updL (vp_updL (vp_updL (fun _ => 0) 0 176) 1 249) 2 107681) 3 12387497) 4 4797) 5 257) 6 13903) 7 261347000) 8 9592700) 9 15091) 10 419) 11 13550) 12 188623) 13 315749) 14 151150) 15 365869) 16 1887) 17 381245) 18 334901377) 19 223456) 20 14431) 21 9528) 22 9734) 23 376205) 24 385418) 25 4075223) 26 40187) 27 126893) 28 409469) 29 4085899) 30 208022) 31 394691) 32 92275) 33 2774) 34 321581) 35 125041) 36 11695) 37 8399691) 38 375062) 39 99233) 40 129361) else fun _ => 0)
def t0 : cS := (fun k f => if k = 0 ∧ f = 5 then (-1) else if k = 0 ∧ f = 6 then (-1) else if k = 48 ∧ f = 7 then (-1) else 0, fun _ _ => 0, fun k f => if k = 0 then (if f = 3 then some 12 else if f = 4 then some 21 else if f = 7 then some 30 else none) else none, fun k => (if k = 1 then 320 else if k = 4 then 32 else if k = 5 then 32 else if k = 8 then 8 else if k = 10 then 8 else if k = 11 then 8 else if k = 13 then 32 else if k = 14 then 32 else if k = 15 then 32 else if k = 17 then 12 else if k = 18 then 12 else if k = 19 then 12 else if k = 20 then 12 else if k = 22 then 32 else if k = 23 then 32 else if k = 24 then 32 else if k = 26 then 12 else if k = 27 then 12 else if k = 28 then 12 else if k = 29 then 12 else if k = 46 then 64 else if k = 47 then 10 else if k = 51 then 8 else if k = 53 then 10 else if k = 54 then 10 else if k = 55 then 8 else if k = 56 then 8 else if k = 57 then 8 else if k = 60 then 64 else if k = 2000610 then 8 else 4, fun _ => 0), fun k => (if k = 6 then 32 else if k = 7 then 14 else if k = 9 then 8 else if k = 16 then 12 else if k = 25 then 12 else if k = 43 then 128 else if k = 44 then 32 else if k = 50 then 8 else if k = 52 then 32 else 0, fun _ => 0), fun _ => none, fun k => if 2000600 ≤ k ∧ k < 2000620 then 30 + (k - 2000600) else k, 0, fun k => decide (k = 30), 111, zz_sl zt_nf zv_h)
def w0 (x : Nat) : Nat := if x = 30 then 122 else if 31 ≤ x ∧ x ≤ 40 then 4 * (2000600 + (x - 30)) + 1 else if 61 ≤ x then 4 * (x - 61) + 3 else if x = 0 ∨ x = 2 ∨ x = 3 ∨ x = 12 ∨ x = 21 ∨ x = 42 ∨ x = 45 ∨ x = 48 ∨ x = 49 ∨ x = 58 ∨ x = 59 then 4 * x else 4 * x + 1
set_option maxRecDepth 100000 in
set_option maxHeartbeats 2000000 in
theorem kR_0 : kR zv_h t0 s0 := by
  refine ⟨w0, ?_, ?_, ?_, ?_, rfl, rfl, by decide⟩
  · intro k c hk
    unfold kVo at hk
    split at hk <;> first | (cases hk; exact ⟨rfl, rfl⟩) | (cases hk; done)
  · intro k c hk
    unfold kVa at hk
    by_cases h1 : k < 2000000
    · rw [if_pos h1] at hk
      unfold kVa0 at hk
      split at hk <;> first | (cases hk; exact ⟨rfl, rfl⟩) | (cases hk; done)
    · rw [if_neg h1] at hk
      by_cases h2 : (k - 2000000) / 20 = 30
      · rw [h2, if_pos rfl] at hk
        have h3 : k = 2000600 ∨ k = 2000601 ∨ k = 2000602 ∨ k = 2000603 ∨ k = 2000604 ∨ k = 2000605 ∨ k = 2000606 ∨ k = 2000607 ∨ k = 2000608 ∨ k = 2000609 ∨ k = 2000610 ∨ (2000610 < k ∧ k < 2000620) := by omega
        rcases h3 with rfl | rfl | rfl | rfl | rfl | rfl | rfl | rfl | rfl | rfl | rfl | ⟨h4, h5⟩
        · cases hk
        · cases hk
          refine ⟨?_, rfl⟩
          have : (fun i => if i < 8 then some (kD t0 (2000601 + 1 + i)) else none) = (fun i => if i < 8 then some (32 + i) else none) := by
            funext i
            by_cases hi : i < 8
            · have e : kD t0 (2000601 + 1 + i) = 32 + i := (if_pos (by omega)).trans (by omega)
              rw [e]
            · rw [if_neg hi, if_neg hi]
          rw [this]
          rfl
        · cases hk
          exact ⟨rfl, rfl⟩
        · cases hk
          exact ⟨rfl, rfl⟩
        · cases hk
          exact ⟨rfl, rfl⟩
        · cases hk
          exact ⟨rfl, rfl⟩
        · cases hk
          exact ⟨rfl, rfl⟩
        · cases hk
          exact ⟨rfl, rfl⟩
        · cases hk
          exact ⟨rfl, rfl⟩
        · cases hk
          exact ⟨rfl, rfl⟩
        · cases hk
          exact ⟨rfl, rfl⟩
        · unfold kVaS at hk
          rw [if_neg (by omega), if_pos (by omega)] at hk
          cases hk
      · rw [if_neg (by
          show ¬ decide ((k - 2000000) / 20 = 30) = true
          rw [decide_eq_true_eq]
          exact h2)] at hk
        cases hk
  · intro k hk
    have hk : decide (k = 30) = true := hk
    rw [decide_eq_true_eq] at hk
    subst hk
    exact ⟨rfl, rfl⟩
  · intro j hj
    have : ∀ j, j < 50 → (zv_h[61 + j]? = (mC s0)[j]? ∧ w0 (61 + j) = 4 * j + 3) := by
      intro j hj
      refine ⟨?_, ?_⟩
      · match j, hj with
        | 0, _ => rfl
        | 1, _ => rfl
        | 2, _ => rfl
        | 3, _ => rfl
        | 4, _ => rfl
        | 5, _ => rfl
        | 6, _ => rfl
        | 7, _ => rfl
        | 8, _ => rfl
        | 9, _ => rfl
        | 10, _ => rfl
        | 11, _ => rfl
        | 12, _ => rfl
        | 13, _ => rfl
        | 14, _ => rfl
        | 15, _ => rfl
        | 16, _ => rfl
        | 17, _ => rfl
        | 18, _ => rfl
        | 19, _ => rfl
        | 20, _ => rfl
        | 21, _ => rfl
        | 22, _ => rfl
        | 23, _ => rfl
        | 24, _ => rfl
        | 25, _ => rfl
        | 26, _ => rfl
        | 27, _ => rfl
        | 28, _ => rfl
        | 29, _ => rfl
        | 30, _ => rfl
        | 31, _ => rfl
        | 32, _ => rfl
        | 33, _ => rfl
        | 34, _ => rfl
        | 35, _ => rfl
        | 36, _ => rfl
        | 37, _ => rfl
        | 38, _ => rfl
        | 39, _ => rfl
        | 40, _ => rfl
        | 41, _ => rfl
        | 42, _ => rfl
        | 43, _ => rfl
        | 44, _ => rfl
        | 45, _ => rfl
        | 46, _ => rfl
        | 47, _ => rfl
        | 48, _ => rfl
        | 49, _ => rfl
        | j + 50, h => exact absurd h (by omega)
      · unfold w0
        rw [if_neg (by omega), if_neg (by omega), if_pos (by omega)]
        omega
    exact this j hj
