theorem zv_sp (v : Int32) : zz_cond .lt v 0 = true ∨ (zz_cond .lt v 0 = false ∧ zz_cond .ge v 8 = true) ∨ ∃ k : Nat, k < 8 ∧ v = nI k := by
  by_cases h : v < 0
  · exact Or.inl (decide_eq_true h)
  · rcases pk_ix v (n := 8) (by decide) with q | q | q
    · exact absurd q h
    · exact Or.inr (Or.inl ⟨decide_eq_false h, decide_eq_true q⟩)
    · exact Or.inr (Or.inr q)
theorem zv_ge {v : Int32} (h : zz_cond .lt v 0 = false) : zz_cond .ge v 0 = true := decide_eq_true (by
  have := of_decide_eq_false h
  exact Int32.not_lt.mp this)
theorem zv_ov1 {xs : Nat → Int32} {a : Int32} (h : xs 1 = a) : (fun q => if q = 1 then a else xs q) = xs := by
  funext q
  split
  · rename_i e; subst e; exact h.symm
  · rfl
theorem zv_ov2 {xs : Nat → Int32} {a b : Int32} (h : xs 1 = a) (h2 : xs 2 = b) : (fun q => if q = 1 then a else if q = 2 then b else xs q) = xs := by
  funext q
  split
  · rename_i e; subst e; exact h.symm
  · split
    · rename_i e; subst e; exact h2.symm
    · rfl
theorem zv_s8 (xs : Nat → Int32) : zz_E zp_P zt_tf zt_fd (zt_X 6 xs) 1000 zm_law 33 zv_L [.int (nI 8)] zv_h zv_Q := by
  rcases zv_sp (xs 1) with h | ⟨h, g⟩ | ⟨k, hk, e⟩
  · exact zv_n8 xs h
  · exact zv_g8 xs h g
  · match k, hk, e with
    | 0, _, e =>
      have t : zz_E zp_P zt_tf zt_fd (zt_X 6 (fun q => if q = 1 then nI 0 else xs q)) 1000 zm_law 33 zv_L [.int (nI 8)] zv_h zv_Q := zv_k8_0 xs
      rw [zv_ov1 e] at t
      exact t
    | 1, _, e =>
      have t : zz_E zp_P zt_tf zt_fd (zt_X 6 (fun q => if q = 1 then nI 1 else xs q)) 1000 zm_law 33 zv_L [.int (nI 8)] zv_h zv_Q := zv_k8_1 xs
      rw [zv_ov1 e] at t
      exact t
    | 2, _, e =>
      have t : zz_E zp_P zt_tf zt_fd (zt_X 6 (fun q => if q = 1 then nI 2 else xs q)) 1000 zm_law 33 zv_L [.int (nI 8)] zv_h zv_Q := zv_k8_2 xs
      rw [zv_ov1 e] at t
      exact t
    | 3, _, e =>
      have t : zz_E zp_P zt_tf zt_fd (zt_X 6 (fun q => if q = 1 then nI 3 else xs q)) 1000 zm_law 33 zv_L [.int (nI 8)] zv_h zv_Q := zv_k8_3 xs
      rw [zv_ov1 e] at t
      exact t
    | 4, _, e =>
      have t : zz_E zp_P zt_tf zt_fd (zt_X 6 (fun q => if q = 1 then nI 4 else xs q)) 1000 zm_law 33 zv_L [.int (nI 8)] zv_h zv_Q := zv_k8_4 xs
      rw [zv_ov1 e] at t
      exact t
    | 5, _, e =>
      have t : zz_E zp_P zt_tf zt_fd (zt_X 6 (fun q => if q = 1 then nI 5 else xs q)) 1000 zm_law 33 zv_L [.int (nI 8)] zv_h zv_Q := zv_k8_5 xs
      rw [zv_ov1 e] at t
      exact t
    | 6, _, e =>
      have t : zz_E zp_P zt_tf zt_fd (zt_X 6 (fun q => if q = 1 then nI 6 else xs q)) 1000 zm_law 33 zv_L [.int (nI 8)] zv_h zv_Q := zv_k8_6 xs
      rw [zv_ov1 e] at t
      exact t
    | 7, _, e =>
      have t : zz_E zp_P zt_tf zt_fd (zt_X 6 (fun q => if q = 1 then nI 7 else xs q)) 1000 zm_law 33 zv_L [.int (nI 8)] zv_h zv_Q := zv_k8_7 xs
      rw [zv_ov1 e] at t
      exact t
theorem zv_s9 (xs : Nat → Int32) : zz_E zp_P zt_tf zt_fd (zt_X 6 xs) 1000 zm_law 33 zv_L [.int (nI 9)] zv_h zv_Q := by
  rcases zv_sp (xs 1) with h | ⟨h, g⟩ | ⟨k, hk, e⟩
  · exact zv_n9 xs h
  · exact zv_g9 xs h g
  · match k, hk, e with
    | 0, _, e =>
      have t : zz_E zp_P zt_tf zt_fd (zt_X 6 (fun q => if q = 1 then nI 0 else xs q)) 1000 zm_law 33 zv_L [.int (nI 9)] zv_h zv_Q := zv_k9_0 xs
      rw [zv_ov1 e] at t
      exact t
    | 1, _, e =>
      have t : zz_E zp_P zt_tf zt_fd (zt_X 6 (fun q => if q = 1 then nI 1 else xs q)) 1000 zm_law 33 zv_L [.int (nI 9)] zv_h zv_Q := zv_k9_1 xs
      rw [zv_ov1 e] at t
      exact t
    | 2, _, e =>
      have t : zz_E zp_P zt_tf zt_fd (zt_X 6 (fun q => if q = 1 then nI 2 else xs q)) 1000 zm_law 33 zv_L [.int (nI 9)] zv_h zv_Q := zv_k9_2 xs
      rw [zv_ov1 e] at t
      exact t
    | 3, _, e =>
      have t : zz_E zp_P zt_tf zt_fd (zt_X 6 (fun q => if q = 1 then nI 3 else xs q)) 1000 zm_law 33 zv_L [.int (nI 9)] zv_h zv_Q := zv_k9_3 xs
      rw [zv_ov1 e] at t
      exact t
    | 4, _, e =>
      have t : zz_E zp_P zt_tf zt_fd (zt_X 6 (fun q => if q = 1 then nI 4 else xs q)) 1000 zm_law 33 zv_L [.int (nI 9)] zv_h zv_Q := zv_k9_4 xs
      rw [zv_ov1 e] at t
      exact t
    | 5, _, e =>
      have t : zz_E zp_P zt_tf zt_fd (zt_X 6 (fun q => if q = 1 then nI 5 else xs q)) 1000 zm_law 33 zv_L [.int (nI 9)] zv_h zv_Q := zv_k9_5 xs
      rw [zv_ov1 e] at t
      exact t
    | 6, _, e =>
      have t : zz_E zp_P zt_tf zt_fd (zt_X 6 (fun q => if q = 1 then nI 6 else xs q)) 1000 zm_law 33 zv_L [.int (nI 9)] zv_h zv_Q := zv_k9_6 xs
      rw [zv_ov1 e] at t
      exact t
    | 7, _, e =>
      have t : zz_E zp_P zt_tf zt_fd (zt_X 6 (fun q => if q = 1 then nI 7 else xs q)) 1000 zm_law 33 zv_L [.int (nI 9)] zv_h zv_Q := zv_k9_7 xs
      rw [zv_ov1 e] at t
      exact t
theorem zv_s10 (xs : Nat → Int32) : zz_E zp_P zt_tf zt_fd (zt_X 6 xs) 1000 zm_law 33 zv_L [.int (nI 10)] zv_h zv_Q := by
  rcases zv_sp (xs 1) with h | ⟨h, g⟩ | ⟨k, hk, e⟩
  · exact zv_n10 xs h
  · exact zv_g10 xs h g
  · match k, hk, e with
    | 0, _, e =>
      have t : zz_E zp_P zt_tf zt_fd (zt_X 6 (fun q => if q = 1 then nI 0 else xs q)) 1000 zm_law 33 zv_L [.int (nI 10)] zv_h zv_Q := zv_k10_0 xs
      rw [zv_ov1 e] at t
      exact t
    | 1, _, e =>
      have t : zz_E zp_P zt_tf zt_fd (zt_X 6 (fun q => if q = 1 then nI 1 else xs q)) 1000 zm_law 33 zv_L [.int (nI 10)] zv_h zv_Q := zv_k10_1 xs
      rw [zv_ov1 e] at t
      exact t
    | 2, _, e =>
      have t : zz_E zp_P zt_tf zt_fd (zt_X 6 (fun q => if q = 1 then nI 2 else xs q)) 1000 zm_law 33 zv_L [.int (nI 10)] zv_h zv_Q := zv_k10_2 xs
      rw [zv_ov1 e] at t
      exact t
    | 3, _, e =>
      have t : zz_E zp_P zt_tf zt_fd (zt_X 6 (fun q => if q = 1 then nI 3 else xs q)) 1000 zm_law 33 zv_L [.int (nI 10)] zv_h zv_Q := zv_k10_3 xs
      rw [zv_ov1 e] at t
      exact t
    | 4, _, e =>
      have t : zz_E zp_P zt_tf zt_fd (zt_X 6 (fun q => if q = 1 then nI 4 else xs q)) 1000 zm_law 33 zv_L [.int (nI 10)] zv_h zv_Q := zv_k10_4 xs
      rw [zv_ov1 e] at t
      exact t
    | 5, _, e =>
      have t : zz_E zp_P zt_tf zt_fd (zt_X 6 (fun q => if q = 1 then nI 5 else xs q)) 1000 zm_law 33 zv_L [.int (nI 10)] zv_h zv_Q := zv_k10_5 xs
      rw [zv_ov1 e] at t
      exact t
    | 6, _, e =>
      have t : zz_E zp_P zt_tf zt_fd (zt_X 6 (fun q => if q = 1 then nI 6 else xs q)) 1000 zm_law 33 zv_L [.int (nI 10)] zv_h zv_Q := zv_k10_6 xs
      rw [zv_ov1 e] at t
      exact t
    | 7, _, e =>
      have t : zz_E zp_P zt_tf zt_fd (zt_X 6 (fun q => if q = 1 then nI 7 else xs q)) 1000 zm_law 33 zv_L [.int (nI 10)] zv_h zv_Q := zv_k10_7 xs
      rw [zv_ov1 e] at t
      exact t
theorem zv_s11 (xs : Nat → Int32) : zz_E zp_P zt_tf zt_fd (zt_X 6 xs) 1000 zm_law 33 zv_L [.int (nI 11)] zv_h zv_Q := by
  rcases zv_sp (xs 1) with h | ⟨h, g⟩ | ⟨k, hk, e⟩
  · exact zv_n11 xs h
  · exact zv_g11 xs h g
  · match k, hk, e with
    | 0, _, e =>
      have t : zz_E zp_P zt_tf zt_fd (zt_X 6 (fun q => if q = 1 then nI 0 else xs q)) 1000 zm_law 33 zv_L [.int (nI 11)] zv_h zv_Q := zv_k11_0 xs
      rw [zv_ov1 e] at t
      exact t
    | 1, _, e =>
      have t : zz_E zp_P zt_tf zt_fd (zt_X 6 (fun q => if q = 1 then nI 1 else xs q)) 1000 zm_law 33 zv_L [.int (nI 11)] zv_h zv_Q := zv_k11_1 xs
      rw [zv_ov1 e] at t
      exact t
    | 2, _, e =>
      have t : zz_E zp_P zt_tf zt_fd (zt_X 6 (fun q => if q = 1 then nI 2 else xs q)) 1000 zm_law 33 zv_L [.int (nI 11)] zv_h zv_Q := zv_k11_2 xs
      rw [zv_ov1 e] at t
      exact t
    | 3, _, e =>
      have t : zz_E zp_P zt_tf zt_fd (zt_X 6 (fun q => if q = 1 then nI 3 else xs q)) 1000 zm_law 33 zv_L [.int (nI 11)] zv_h zv_Q := zv_k11_3 xs
      rw [zv_ov1 e] at t
      exact t
    | 4, _, e =>
      have t : zz_E zp_P zt_tf zt_fd (zt_X 6 (fun q => if q = 1 then nI 4 else xs q)) 1000 zm_law 33 zv_L [.int (nI 11)] zv_h zv_Q := zv_k11_4 xs
      rw [zv_ov1 e] at t
      exact t
    | 5, _, e =>
      have t : zz_E zp_P zt_tf zt_fd (zt_X 6 (fun q => if q = 1 then nI 5 else xs q)) 1000 zm_law 33 zv_L [.int (nI 11)] zv_h zv_Q := zv_k11_5 xs
      rw [zv_ov1 e] at t
      exact t
    | 6, _, e =>
      have t : zz_E zp_P zt_tf zt_fd (zt_X 6 (fun q => if q = 1 then nI 6 else xs q)) 1000 zm_law 33 zv_L [.int (nI 11)] zv_h zv_Q := zv_k11_6 xs
      rw [zv_ov1 e] at t
      exact t
    | 7, _, e =>
      have t : zz_E zp_P zt_tf zt_fd (zt_X 6 (fun q => if q = 1 then nI 7 else xs q)) 1000 zm_law 33 zv_L [.int (nI 11)] zv_h zv_Q := zv_k11_7 xs
      rw [zv_ov1 e] at t
      exact t
theorem zv_s12 (xs : Nat → Int32) : zz_E zp_P zt_tf zt_fd (zt_X 6 xs) 1000 zm_law 33 zv_L [.int (nI 12)] zv_h zv_Q := by
  rcases zv_sp (xs 1) with h | ⟨h, g⟩ | ⟨k, hk, e⟩
  · exact zv_n12 xs h
  · exact zv_g12 xs h g
  · match k, hk, e with
    | 0, _, e =>
      have t : zz_E zp_P zt_tf zt_fd (zt_X 6 (fun q => if q = 1 then nI 0 else xs q)) 1000 zm_law 33 zv_L [.int (nI 12)] zv_h zv_Q := zv_k12_0 xs
      rw [zv_ov1 e] at t
      exact t
    | 1, _, e =>
      have t : zz_E zp_P zt_tf zt_fd (zt_X 6 (fun q => if q = 1 then nI 1 else xs q)) 1000 zm_law 33 zv_L [.int (nI 12)] zv_h zv_Q := zv_k12_1 xs
      rw [zv_ov1 e] at t
      exact t
    | 2, _, e =>
      have t : zz_E zp_P zt_tf zt_fd (zt_X 6 (fun q => if q = 1 then nI 2 else xs q)) 1000 zm_law 33 zv_L [.int (nI 12)] zv_h zv_Q := zv_k12_2 xs
      rw [zv_ov1 e] at t
      exact t
    | 3, _, e =>
      have t : zz_E zp_P zt_tf zt_fd (zt_X 6 (fun q => if q = 1 then nI 3 else xs q)) 1000 zm_law 33 zv_L [.int (nI 12)] zv_h zv_Q := zv_k12_3 xs
      rw [zv_ov1 e] at t
      exact t
    | 4, _, e =>
      have t : zz_E zp_P zt_tf zt_fd (zt_X 6 (fun q => if q = 1 then nI 4 else xs q)) 1000 zm_law 33 zv_L [.int (nI 12)] zv_h zv_Q := zv_k12_4 xs
      rw [zv_ov1 e] at t
      exact t
    | 5, _, e =>
      have t : zz_E zp_P zt_tf zt_fd (zt_X 6 (fun q => if q = 1 then nI 5 else xs q)) 1000 zm_law 33 zv_L [.int (nI 12)] zv_h zv_Q := zv_k12_5 xs
      rw [zv_ov1 e] at t
      exact t
    | 6, _, e =>
      have t : zz_E zp_P zt_tf zt_fd (zt_X 6 (fun q => if q = 1 then nI 6 else xs q)) 1000 zm_law 33 zv_L [.int (nI 12)] zv_h zv_Q := zv_k12_6 xs
      rw [zv_ov1 e] at t
      exact t
    | 7, _, e =>
      have t : zz_E zp_P zt_tf zt_fd (zt_X 6 (fun q => if q = 1 then nI 7 else xs q)) 1000 zm_law 33 zv_L [.int (nI 12)] zv_h zv_Q := zv_k12_7 xs
      rw [zv_ov1 e] at t
      exact t
theorem zv_s13 (xs : Nat → Int32) : zz_E zp_P zt_tf zt_fd (zt_X 6 xs) 1000 zm_law 33 zv_L [.int (nI 13)] zv_h zv_Q := by
  rcases zv_sp (xs 1) with h | ⟨h, g⟩ | ⟨k, hk, e⟩
  · exact zv_n13 xs h
  · exact zv_g13 xs h g
  · match k, hk, e with
    | 0, _, e =>
      have t : zz_E zp_P zt_tf zt_fd (zt_X 6 (fun q => if q = 1 then nI 0 else xs q)) 1000 zm_law 33 zv_L [.int (nI 13)] zv_h zv_Q := zv_k13_0 xs
      rw [zv_ov1 e] at t
      exact t
    | 1, _, e =>
      have t : zz_E zp_P zt_tf zt_fd (zt_X 6 (fun q => if q = 1 then nI 1 else xs q)) 1000 zm_law 33 zv_L [.int (nI 13)] zv_h zv_Q := zv_k13_1 xs
      rw [zv_ov1 e] at t
      exact t
    | 2, _, e =>
      have t : zz_E zp_P zt_tf zt_fd (zt_X 6 (fun q => if q = 1 then nI 2 else xs q)) 1000 zm_law 33 zv_L [.int (nI 13)] zv_h zv_Q := zv_k13_2 xs
      rw [zv_ov1 e] at t
      exact t
    | 3, _, e =>
      have t : zz_E zp_P zt_tf zt_fd (zt_X 6 (fun q => if q = 1 then nI 3 else xs q)) 1000 zm_law 33 zv_L [.int (nI 13)] zv_h zv_Q := zv_k13_3 xs
      rw [zv_ov1 e] at t
      exact t
    | 4, _, e =>
      have t : zz_E zp_P zt_tf zt_fd (zt_X 6 (fun q => if q = 1 then nI 4 else xs q)) 1000 zm_law 33 zv_L [.int (nI 13)] zv_h zv_Q := zv_k13_4 xs
      rw [zv_ov1 e] at t
      exact t
    | 5, _, e =>
      have t : zz_E zp_P zt_tf zt_fd (zt_X 6 (fun q => if q = 1 then nI 5 else xs q)) 1000 zm_law 33 zv_L [.int (nI 13)] zv_h zv_Q := zv_k13_5 xs
      rw [zv_ov1 e] at t
      exact t
    | 6, _, e =>
      have t : zz_E zp_P zt_tf zt_fd (zt_X 6 (fun q => if q = 1 then nI 6 else xs q)) 1000 zm_law 33 zv_L [.int (nI 13)] zv_h zv_Q := zv_k13_6 xs
      rw [zv_ov1 e] at t
      exact t
    | 7, _, e =>
      have t : zz_E zp_P zt_tf zt_fd (zt_X 6 (fun q => if q = 1 then nI 7 else xs q)) 1000 zm_law 33 zv_L [.int (nI 13)] zv_h zv_Q := zv_k13_7 xs
      rw [zv_ov1 e] at t
      exact t
theorem zv_s14 (xs : Nat → Int32) : zz_E zp_P zt_tf zt_fd (zt_X 6 xs) 1000 zm_law 33 zv_L [.int (nI 14)] zv_h zv_Q := by
  rcases zv_sp (xs 1) with h | ⟨h, g⟩ | ⟨k, hk, e⟩
  · exact zv_n14 xs h
  · exact zv_g14 xs h g
  · match k, hk, e with
    | 0, _, e =>
      have t : zz_E zp_P zt_tf zt_fd (zt_X 6 (fun q => if q = 1 then nI 0 else xs q)) 1000 zm_law 33 zv_L [.int (nI 14)] zv_h zv_Q := zv_k14_0 xs
      rw [zv_ov1 e] at t
      exact t
    | 1, _, e =>
      have t : zz_E zp_P zt_tf zt_fd (zt_X 6 (fun q => if q = 1 then nI 1 else xs q)) 1000 zm_law 33 zv_L [.int (nI 14)] zv_h zv_Q := zv_k14_1 xs
      rw [zv_ov1 e] at t
      exact t
    | 2, _, e =>
      have t : zz_E zp_P zt_tf zt_fd (zt_X 6 (fun q => if q = 1 then nI 2 else xs q)) 1000 zm_law 33 zv_L [.int (nI 14)] zv_h zv_Q := zv_k14_2 xs
      rw [zv_ov1 e] at t
      exact t
    | 3, _, e =>
      have t : zz_E zp_P zt_tf zt_fd (zt_X 6 (fun q => if q = 1 then nI 3 else xs q)) 1000 zm_law 33 zv_L [.int (nI 14)] zv_h zv_Q := zv_k14_3 xs
      rw [zv_ov1 e] at t
      exact t
    | 4, _, e =>
      have t : zz_E zp_P zt_tf zt_fd (zt_X 6 (fun q => if q = 1 then nI 4 else xs q)) 1000 zm_law 33 zv_L [.int (nI 14)] zv_h zv_Q := zv_k14_4 xs
      rw [zv_ov1 e] at t
      exact t
    | 5, _, e =>
      have t : zz_E zp_P zt_tf zt_fd (zt_X 6 (fun q => if q = 1 then nI 5 else xs q)) 1000 zm_law 33 zv_L [.int (nI 14)] zv_h zv_Q := zv_k14_5 xs
      rw [zv_ov1 e] at t
      exact t
    | 6, _, e =>
      have t : zz_E zp_P zt_tf zt_fd (zt_X 6 (fun q => if q = 1 then nI 6 else xs q)) 1000 zm_law 33 zv_L [.int (nI 14)] zv_h zv_Q := zv_k14_6 xs
      rw [zv_ov1 e] at t
      exact t
    | 7, _, e =>
      have t : zz_E zp_P zt_tf zt_fd (zt_X 6 (fun q => if q = 1 then nI 7 else xs q)) 1000 zm_law 33 zv_L [.int (nI 14)] zv_h zv_Q := zv_k14_7 xs
      rw [zv_ov1 e] at t
      exact t
theorem zv_s15 (xs : Nat → Int32) : zz_E zp_P zt_tf zt_fd (zt_X 6 xs) 1000 zm_law 33 zv_L [.int (nI 15)] zv_h zv_Q := by
  rcases zv_sp (xs 1) with h | ⟨h, g⟩ | ⟨k, hk, e⟩
  · exact zv_n15 xs h
  · exact zv_g15 xs h g
  · rcases zv_sp (xs 2) with h | ⟨h, g⟩ | ⟨k2, hk2, e2⟩
    · exact zv_n15b xs (by rw [e]; revert hk; revert k; decide +kernel) (by rw [e]; revert hk; revert k; decide +kernel) h
    · exact zv_g15b xs (by rw [e]; revert hk; revert k; decide +kernel) (by rw [e]; revert hk; revert k; decide +kernel) h g
    · match k, hk, e, k2, hk2, e2 with
      | 0, _, e, 0, _, e2 =>
        have t : zz_E zp_P zt_tf zt_fd (zt_X 6 (fun q => if q = 1 then nI 0 else if q = 2 then nI 0 else xs q)) 1000 zm_law 33 zv_L [.int (nI 15)] zv_h zv_Q := zv_k15_0_0 xs
        rw [zv_ov2 e e2] at t
        exact t
      | 0, _, e, 1, _, e2 =>
        have t : zz_E zp_P zt_tf zt_fd (zt_X 6 (fun q => if q = 1 then nI 0 else if q = 2 then nI 1 else xs q)) 1000 zm_law 33 zv_L [.int (nI 15)] zv_h zv_Q := zv_k15_0_1 xs
        rw [zv_ov2 e e2] at t
        exact t
      | 0, _, e, 2, _, e2 =>
        have t : zz_E zp_P zt_tf zt_fd (zt_X 6 (fun q => if q = 1 then nI 0 else if q = 2 then nI 2 else xs q)) 1000 zm_law 33 zv_L [.int (nI 15)] zv_h zv_Q := zv_k15_0_2 xs
        rw [zv_ov2 e e2] at t
        exact t
      | 0, _, e, 3, _, e2 =>
        have t : zz_E zp_P zt_tf zt_fd (zt_X 6 (fun q => if q = 1 then nI 0 else if q = 2 then nI 3 else xs q)) 1000 zm_law 33 zv_L [.int (nI 15)] zv_h zv_Q := zv_k15_0_3 xs
        rw [zv_ov2 e e2] at t
        exact t
      | 0, _, e, 4, _, e2 =>
        have t : zz_E zp_P zt_tf zt_fd (zt_X 6 (fun q => if q = 1 then nI 0 else if q = 2 then nI 4 else xs q)) 1000 zm_law 33 zv_L [.int (nI 15)] zv_h zv_Q := zv_k15_0_4 xs
        rw [zv_ov2 e e2] at t
        exact t
      | 0, _, e, 5, _, e2 =>
        have t : zz_E zp_P zt_tf zt_fd (zt_X 6 (fun q => if q = 1 then nI 0 else if q = 2 then nI 5 else xs q)) 1000 zm_law 33 zv_L [.int (nI 15)] zv_h zv_Q := zv_k15_0_5 xs
        rw [zv_ov2 e e2] at t
        exact t
      | 0, _, e, 6, _, e2 =>
        have t : zz_E zp_P zt_tf zt_fd (zt_X 6 (fun q => if q = 1 then nI 0 else if q = 2 then nI 6 else xs q)) 1000 zm_law 33 zv_L [.int (nI 15)] zv_h zv_Q := zv_k15_0_6 xs
        rw [zv_ov2 e e2] at t
        exact t
      | 0, _, e, 7, _, e2 =>
        have t : zz_E zp_P zt_tf zt_fd (zt_X 6 (fun q => if q = 1 then nI 0 else if q = 2 then nI 7 else xs q)) 1000 zm_law 33 zv_L [.int (nI 15)] zv_h zv_Q := zv_k15_0_7 xs
        rw [zv_ov2 e e2] at t
        exact t
      | 1, _, e, 0, _, e2 =>
        have t : zz_E zp_P zt_tf zt_fd (zt_X 6 (fun q => if q = 1 then nI 1 else if q = 2 then nI 0 else xs q)) 1000 zm_law 33 zv_L [.int (nI 15)] zv_h zv_Q := zv_k15_1_0 xs
        rw [zv_ov2 e e2] at t
        exact t
      | 1, _, e, 1, _, e2 =>
        have t : zz_E zp_P zt_tf zt_fd (zt_X 6 (fun q => if q = 1 then nI 1 else if q = 2 then nI 1 else xs q)) 1000 zm_law 33 zv_L [.int (nI 15)] zv_h zv_Q := zv_k15_1_1 xs
        rw [zv_ov2 e e2] at t
        exact t
      | 1, _, e, 2, _, e2 =>
        have t : zz_E zp_P zt_tf zt_fd (zt_X 6 (fun q => if q = 1 then nI 1 else if q = 2 then nI 2 else xs q)) 1000 zm_law 33 zv_L [.int (nI 15)] zv_h zv_Q := zv_k15_1_2 xs
        rw [zv_ov2 e e2] at t
        exact t
      | 1, _, e, 3, _, e2 =>
        have t : zz_E zp_P zt_tf zt_fd (zt_X 6 (fun q => if q = 1 then nI 1 else if q = 2 then nI 3 else xs q)) 1000 zm_law 33 zv_L [.int (nI 15)] zv_h zv_Q := zv_k15_1_3 xs
        rw [zv_ov2 e e2] at t
        exact t
      | 1, _, e, 4, _, e2 =>
        have t : zz_E zp_P zt_tf zt_fd (zt_X 6 (fun q => if q = 1 then nI 1 else if q = 2 then nI 4 else xs q)) 1000 zm_law 33 zv_L [.int (nI 15)] zv_h zv_Q := zv_k15_1_4 xs
        rw [zv_ov2 e e2] at t
        exact t
      | 1, _, e, 5, _, e2 =>
        have t : zz_E zp_P zt_tf zt_fd (zt_X 6 (fun q => if q = 1 then nI 1 else if q = 2 then nI 5 else xs q)) 1000 zm_law 33 zv_L [.int (nI 15)] zv_h zv_Q := zv_k15_1_5 xs
        rw [zv_ov2 e e2] at t
        exact t
      | 1, _, e, 6, _, e2 =>
        have t : zz_E zp_P zt_tf zt_fd (zt_X 6 (fun q => if q = 1 then nI 1 else if q = 2 then nI 6 else xs q)) 1000 zm_law 33 zv_L [.int (nI 15)] zv_h zv_Q := zv_k15_1_6 xs
        rw [zv_ov2 e e2] at t
        exact t
      | 1, _, e, 7, _, e2 =>
        have t : zz_E zp_P zt_tf zt_fd (zt_X 6 (fun q => if q = 1 then nI 1 else if q = 2 then nI 7 else xs q)) 1000 zm_law 33 zv_L [.int (nI 15)] zv_h zv_Q := zv_k15_1_7 xs
        rw [zv_ov2 e e2] at t
        exact t
      | 2, _, e, 0, _, e2 =>
        have t : zz_E zp_P zt_tf zt_fd (zt_X 6 (fun q => if q = 1 then nI 2 else if q = 2 then nI 0 else xs q)) 1000 zm_law 33 zv_L [.int (nI 15)] zv_h zv_Q := zv_k15_2_0 xs
        rw [zv_ov2 e e2] at t
        exact t
      | 2, _, e, 1, _, e2 =>
        have t : zz_E zp_P zt_tf zt_fd (zt_X 6 (fun q => if q = 1 then nI 2 else if q = 2 then nI 1 else xs q)) 1000 zm_law 33 zv_L [.int (nI 15)] zv_h zv_Q := zv_k15_2_1 xs
        rw [zv_ov2 e e2] at t
        exact t
      | 2, _, e, 2, _, e2 =>
        have t : zz_E zp_P zt_tf zt_fd (zt_X 6 (fun q => if q = 1 then nI 2 else if q = 2 then nI 2 else xs q)) 1000 zm_law 33 zv_L [.int (nI 15)] zv_h zv_Q := zv_k15_2_2 xs
        rw [zv_ov2 e e2] at t
        exact t
      | 2, _, e, 3, _, e2 =>
        have t : zz_E zp_P zt_tf zt_fd (zt_X 6 (fun q => if q = 1 then nI 2 else if q = 2 then nI 3 else xs q)) 1000 zm_law 33 zv_L [.int (nI 15)] zv_h zv_Q := zv_k15_2_3 xs
        rw [zv_ov2 e e2] at t
        exact t
      | 2, _, e, 4, _, e2 =>
        have t : zz_E zp_P zt_tf zt_fd (zt_X 6 (fun q => if q = 1 then nI 2 else if q = 2 then nI 4 else xs q)) 1000 zm_law 33 zv_L [.int (nI 15)] zv_h zv_Q := zv_k15_2_4 xs
        rw [zv_ov2 e e2] at t
        exact t
      | 2, _, e, 5, _, e2 =>
        have t : zz_E zp_P zt_tf zt_fd (zt_X 6 (fun q => if q = 1 then nI 2 else if q = 2 then nI 5 else xs q)) 1000 zm_law 33 zv_L [.int (nI 15)] zv_h zv_Q := zv_k15_2_5 xs
        rw [zv_ov2 e e2] at t
        exact t
      | 2, _, e, 6, _, e2 =>
        have t : zz_E zp_P zt_tf zt_fd (zt_X 6 (fun q => if q = 1 then nI 2 else if q = 2 then nI 6 else xs q)) 1000 zm_law 33 zv_L [.int (nI 15)] zv_h zv_Q := zv_k15_2_6 xs
        rw [zv_ov2 e e2] at t
        exact t
      | 2, _, e, 7, _, e2 =>
        have t : zz_E zp_P zt_tf zt_fd (zt_X 6 (fun q => if q = 1 then nI 2 else if q = 2 then nI 7 else xs q)) 1000 zm_law 33 zv_L [.int (nI 15)] zv_h zv_Q := zv_k15_2_7 xs
        rw [zv_ov2 e e2] at t
        exact t
      | 3, _, e, 0, _, e2 =>
        have t : zz_E zp_P zt_tf zt_fd (zt_X 6 (fun q => if q = 1 then nI 3 else if q = 2 then nI 0 else xs q)) 1000 zm_law 33 zv_L [.int (nI 15)] zv_h zv_Q := zv_k15_3_0 xs
        rw [zv_ov2 e e2] at t
        exact t
      | 3, _, e, 1, _, e2 =>
        have t : zz_E zp_P zt_tf zt_fd (zt_X 6 (fun q => if q = 1 then nI 3 else if q = 2 then nI 1 else xs q)) 1000 zm_law 33 zv_L [.int (nI 15)] zv_h zv_Q := zv_k15_3_1 xs
        rw [zv_ov2 e e2] at t
        exact t
      | 3, _, e, 2, _, e2 =>
        have t : zz_E zp_P zt_tf zt_fd (zt_X 6 (fun q => if q = 1 then nI 3 else if q = 2 then nI 2 else xs q)) 1000 zm_law 33 zv_L [.int (nI 15)] zv_h zv_Q := zv_k15_3_2 xs
        rw [zv_ov2 e e2] at t
        exact t
      | 3, _, e, 3, _, e2 =>
        have t : zz_E zp_P zt_tf zt_fd (zt_X 6 (fun q => if q = 1 then nI 3 else if q = 2 then nI 3 else xs q)) 1000 zm_law 33 zv_L [.int (nI 15)] zv_h zv_Q := zv_k15_3_3 xs
        rw [zv_ov2 e e2] at t
        exact t
      | 3, _, e, 4, _, e2 =>
        have t : zz_E zp_P zt_tf zt_fd (zt_X 6 (fun q => if q = 1 then nI 3 else if q = 2 then nI 4 else xs q)) 1000 zm_law 33 zv_L [.int (nI 15)] zv_h zv_Q := zv_k15_3_4 xs
        rw [zv_ov2 e e2] at t
        exact t
      | 3, _, e, 5, _, e2 =>
        have t : zz_E zp_P zt_tf zt_fd (zt_X 6 (fun q => if q = 1 then nI 3 else if q = 2 then nI 5 else xs q)) 1000 zm_law 33 zv_L [.int (nI 15)] zv_h zv_Q := zv_k15_3_5 xs
        rw [zv_ov2 e e2] at t
        exact t
      | 3, _, e, 6, _, e2 =>
        have t : zz_E zp_P zt_tf zt_fd (zt_X 6 (fun q => if q = 1 then nI 3 else if q = 2 then nI 6 else xs q)) 1000 zm_law 33 zv_L [.int (nI 15)] zv_h zv_Q := zv_k15_3_6 xs
        rw [zv_ov2 e e2] at t
        exact t
      | 3, _, e, 7, _, e2 =>
        have t : zz_E zp_P zt_tf zt_fd (zt_X 6 (fun q => if q = 1 then nI 3 else if q = 2 then nI 7 else xs q)) 1000 zm_law 33 zv_L [.int (nI 15)] zv_h zv_Q := zv_k15_3_7 xs
        rw [zv_ov2 e e2] at t
        exact t
      | 4, _, e, 0, _, e2 =>
        have t : zz_E zp_P zt_tf zt_fd (zt_X 6 (fun q => if q = 1 then nI 4 else if q = 2 then nI 0 else xs q)) 1000 zm_law 33 zv_L [.int (nI 15)] zv_h zv_Q := zv_k15_4_0 xs
        rw [zv_ov2 e e2] at t
        exact t
      | 4, _, e, 1, _, e2 =>
        have t : zz_E zp_P zt_tf zt_fd (zt_X 6 (fun q => if q = 1 then nI 4 else if q = 2 then nI 1 else xs q)) 1000 zm_law 33 zv_L [.int (nI 15)] zv_h zv_Q := zv_k15_4_1 xs
        rw [zv_ov2 e e2] at t
        exact t
      | 4, _, e, 2, _, e2 =>
        have t : zz_E zp_P zt_tf zt_fd (zt_X 6 (fun q => if q = 1 then nI 4 else if q = 2 then nI 2 else xs q)) 1000 zm_law 33 zv_L [.int (nI 15)] zv_h zv_Q := zv_k15_4_2 xs
        rw [zv_ov2 e e2] at t
        exact t
      | 4, _, e, 3, _, e2 =>
        have t : zz_E zp_P zt_tf zt_fd (zt_X 6 (fun q => if q = 1 then nI 4 else if q = 2 then nI 3 else xs q)) 1000 zm_law 33 zv_L [.int (nI 15)] zv_h zv_Q := zv_k15_4_3 xs
        rw [zv_ov2 e e2] at t
        exact t
      | 4, _, e, 4, _, e2 =>
        have t : zz_E zp_P zt_tf zt_fd (zt_X 6 (fun q => if q = 1 then nI 4 else if q = 2 then nI 4 else xs q)) 1000 zm_law 33 zv_L [.int (nI 15)] zv_h zv_Q := zv_k15_4_4 xs
        rw [zv_ov2 e e2] at t
        exact t
      | 4, _, e, 5, _, e2 =>
        have t : zz_E zp_P zt_tf zt_fd (zt_X 6 (fun q => if q = 1 then nI 4 else if q = 2 then nI 5 else xs q)) 1000 zm_law 33 zv_L [.int (nI 15)] zv_h zv_Q := zv_k15_4_5 xs
        rw [zv_ov2 e e2] at t
        exact t
      | 4, _, e, 6, _, e2 =>
        have t : zz_E zp_P zt_tf zt_fd (zt_X 6 (fun q => if q = 1 then nI 4 else if q = 2 then nI 6 else xs q)) 1000 zm_law 33 zv_L [.int (nI 15)] zv_h zv_Q := zv_k15_4_6 xs
        rw [zv_ov2 e e2] at t
        exact t
      | 4, _, e, 7, _, e2 =>
        have t : zz_E zp_P zt_tf zt_fd (zt_X 6 (fun q => if q = 1 then nI 4 else if q = 2 then nI 7 else xs q)) 1000 zm_law 33 zv_L [.int (nI 15)] zv_h zv_Q := zv_k15_4_7 xs
        rw [zv_ov2 e e2] at t
        exact t
      | 5, _, e, 0, _, e2 =>
        have t : zz_E zp_P zt_tf zt_fd (zt_X 6 (fun q => if q = 1 then nI 5 else if q = 2 then nI 0 else xs q)) 1000 zm_law 33 zv_L [.int (nI 15)] zv_h zv_Q := zv_k15_5_0 xs
        rw [zv_ov2 e e2] at t
        exact t
      | 5, _, e, 1, _, e2 =>
        have t : zz_E zp_P zt_tf zt_fd (zt_X 6 (fun q => if q = 1 then nI 5 else if q = 2 then nI 1 else xs q)) 1000 zm_law 33 zv_L [.int (nI 15)] zv_h zv_Q := zv_k15_5_1 xs
        rw [zv_ov2 e e2] at t
        exact t
      | 5, _, e, 2, _, e2 =>
        have t : zz_E zp_P zt_tf zt_fd (zt_X 6 (fun q => if q = 1 then nI 5 else if q = 2 then nI 2 else xs q)) 1000 zm_law 33 zv_L [.int (nI 15)] zv_h zv_Q := zv_k15_5_2 xs
        rw [zv_ov2 e e2] at t
        exact t
      | 5, _, e, 3, _, e2 =>
        have t : zz_E zp_P zt_tf zt_fd (zt_X 6 (fun q => if q = 1 then nI 5 else if q = 2 then nI 3 else xs q)) 1000 zm_law 33 zv_L [.int (nI 15)] zv_h zv_Q := zv_k15_5_3 xs
        rw [zv_ov2 e e2] at t
        exact t
      | 5, _, e, 4, _, e2 =>
        have t : zz_E zp_P zt_tf zt_fd (zt_X 6 (fun q => if q = 1 then nI 5 else if q = 2 then nI 4 else xs q)) 1000 zm_law 33 zv_L [.int (nI 15)] zv_h zv_Q := zv_k15_5_4 xs
        rw [zv_ov2 e e2] at t
        exact t
      | 5, _, e, 5, _, e2 =>
        have t : zz_E zp_P zt_tf zt_fd (zt_X 6 (fun q => if q = 1 then nI 5 else if q = 2 then nI 5 else xs q)) 1000 zm_law 33 zv_L [.int (nI 15)] zv_h zv_Q := zv_k15_5_5 xs
        rw [zv_ov2 e e2] at t
        exact t
      | 5, _, e, 6, _, e2 =>
        have t : zz_E zp_P zt_tf zt_fd (zt_X 6 (fun q => if q = 1 then nI 5 else if q = 2 then nI 6 else xs q)) 1000 zm_law 33 zv_L [.int (nI 15)] zv_h zv_Q := zv_k15_5_6 xs
        rw [zv_ov2 e e2] at t
        exact t
      | 5, _, e, 7, _, e2 =>
        have t : zz_E zp_P zt_tf zt_fd (zt_X 6 (fun q => if q = 1 then nI 5 else if q = 2 then nI 7 else xs q)) 1000 zm_law 33 zv_L [.int (nI 15)] zv_h zv_Q := zv_k15_5_7 xs
        rw [zv_ov2 e e2] at t
        exact t
      | 6, _, e, 0, _, e2 =>
        have t : zz_E zp_P zt_tf zt_fd (zt_X 6 (fun q => if q = 1 then nI 6 else if q = 2 then nI 0 else xs q)) 1000 zm_law 33 zv_L [.int (nI 15)] zv_h zv_Q := zv_k15_6_0 xs
        rw [zv_ov2 e e2] at t
        exact t
      | 6, _, e, 1, _, e2 =>
        have t : zz_E zp_P zt_tf zt_fd (zt_X 6 (fun q => if q = 1 then nI 6 else if q = 2 then nI 1 else xs q)) 1000 zm_law 33 zv_L [.int (nI 15)] zv_h zv_Q := zv_k15_6_1 xs
        rw [zv_ov2 e e2] at t
        exact t
      | 6, _, e, 2, _, e2 =>
        have t : zz_E zp_P zt_tf zt_fd (zt_X 6 (fun q => if q = 1 then nI 6 else if q = 2 then nI 2 else xs q)) 1000 zm_law 33 zv_L [.int (nI 15)] zv_h zv_Q := zv_k15_6_2 xs
        rw [zv_ov2 e e2] at t
        exact t
      | 6, _, e, 3, _, e2 =>
        have t : zz_E zp_P zt_tf zt_fd (zt_X 6 (fun q => if q = 1 then nI 6 else if q = 2 then nI 3 else xs q)) 1000 zm_law 33 zv_L [.int (nI 15)] zv_h zv_Q := zv_k15_6_3 xs
        rw [zv_ov2 e e2] at t
        exact t
      | 6, _, e, 4, _, e2 =>
        have t : zz_E zp_P zt_tf zt_fd (zt_X 6 (fun q => if q = 1 then nI 6 else if q = 2 then nI 4 else xs q)) 1000 zm_law 33 zv_L [.int (nI 15)] zv_h zv_Q := zv_k15_6_4 xs
        rw [zv_ov2 e e2] at t
        exact t
      | 6, _, e, 5, _, e2 =>
        have t : zz_E zp_P zt_tf zt_fd (zt_X 6 (fun q => if q = 1 then nI 6 else if q = 2 then nI 5 else xs q)) 1000 zm_law 33 zv_L [.int (nI 15)] zv_h zv_Q := zv_k15_6_5 xs
        rw [zv_ov2 e e2] at t
        exact t
      | 6, _, e, 6, _, e2 =>
        have t : zz_E zp_P zt_tf zt_fd (zt_X 6 (fun q => if q = 1 then nI 6 else if q = 2 then nI 6 else xs q)) 1000 zm_law 33 zv_L [.int (nI 15)] zv_h zv_Q := zv_k15_6_6 xs
        rw [zv_ov2 e e2] at t
        exact t
      | 6, _, e, 7, _, e2 =>
        have t : zz_E zp_P zt_tf zt_fd (zt_X 6 (fun q => if q = 1 then nI 6 else if q = 2 then nI 7 else xs q)) 1000 zm_law 33 zv_L [.int (nI 15)] zv_h zv_Q := zv_k15_6_7 xs
        rw [zv_ov2 e e2] at t
        exact t
      | 7, _, e, 0, _, e2 =>
        have t : zz_E zp_P zt_tf zt_fd (zt_X 6 (fun q => if q = 1 then nI 7 else if q = 2 then nI 0 else xs q)) 1000 zm_law 33 zv_L [.int (nI 15)] zv_h zv_Q := zv_k15_7_0 xs
        rw [zv_ov2 e e2] at t
        exact t
      | 7, _, e, 1, _, e2 =>
        have t : zz_E zp_P zt_tf zt_fd (zt_X 6 (fun q => if q = 1 then nI 7 else if q = 2 then nI 1 else xs q)) 1000 zm_law 33 zv_L [.int (nI 15)] zv_h zv_Q := zv_k15_7_1 xs
        rw [zv_ov2 e e2] at t
        exact t
      | 7, _, e, 2, _, e2 =>
        have t : zz_E zp_P zt_tf zt_fd (zt_X 6 (fun q => if q = 1 then nI 7 else if q = 2 then nI 2 else xs q)) 1000 zm_law 33 zv_L [.int (nI 15)] zv_h zv_Q := zv_k15_7_2 xs
        rw [zv_ov2 e e2] at t
        exact t
      | 7, _, e, 3, _, e2 =>
        have t : zz_E zp_P zt_tf zt_fd (zt_X 6 (fun q => if q = 1 then nI 7 else if q = 2 then nI 3 else xs q)) 1000 zm_law 33 zv_L [.int (nI 15)] zv_h zv_Q := zv_k15_7_3 xs
        rw [zv_ov2 e e2] at t
        exact t
      | 7, _, e, 4, _, e2 =>
        have t : zz_E zp_P zt_tf zt_fd (zt_X 6 (fun q => if q = 1 then nI 7 else if q = 2 then nI 4 else xs q)) 1000 zm_law 33 zv_L [.int (nI 15)] zv_h zv_Q := zv_k15_7_4 xs
        rw [zv_ov2 e e2] at t
        exact t
      | 7, _, e, 5, _, e2 =>
        have t : zz_E zp_P zt_tf zt_fd (zt_X 6 (fun q => if q = 1 then nI 7 else if q = 2 then nI 5 else xs q)) 1000 zm_law 33 zv_L [.int (nI 15)] zv_h zv_Q := zv_k15_7_5 xs
        rw [zv_ov2 e e2] at t
        exact t
      | 7, _, e, 6, _, e2 =>
        have t : zz_E zp_P zt_tf zt_fd (zt_X 6 (fun q => if q = 1 then nI 7 else if q = 2 then nI 6 else xs q)) 1000 zm_law 33 zv_L [.int (nI 15)] zv_h zv_Q := zv_k15_7_6 xs
        rw [zv_ov2 e e2] at t
        exact t
      | 7, _, e, 7, _, e2 =>
        have t : zz_E zp_P zt_tf zt_fd (zt_X 6 (fun q => if q = 1 then nI 7 else if q = 2 then nI 7 else xs q)) 1000 zm_law 33 zv_L [.int (nI 15)] zv_h zv_Q := zv_k15_7_7 xs
        rw [zv_ov2 e e2] at t
        exact t
theorem zv_s1 (xs : Nat → Int32) : zz_E zp_P zt_tf zt_fd (zt_X 6 xs) 1000 zm_law 33 zv_L [.int (nI 1)] zv_h zv_Q := by
  by_cases h : zz_cond .lt (xs 1) 0 = true
  · exact zv_n1 xs h
  · have h : zz_cond .lt (xs 1) 0 = false := by simpa using h
    by_cases g : xs 1 = 0
    · have t : zz_E zp_P zt_tf zt_fd (zt_X 6 (fun q => if q = 1 then nI 0 else xs q)) 1000 zm_law 33 zv_L [.int (nI 1)] zv_h zv_Q := zv_k1_0 xs
      rw [zv_ov1 (show xs 1 = nI 0 from g)] at t
      exact t
    · have h9 : ¬ xs 1 ≤ 0 := fun q => g (Int32.le_antisymm q (Int32.not_lt.mp (of_decide_eq_false h)))
      exact zv_g1 xs h (zv_ge h) (decide_eq_false h9) (decide_eq_true (Int32.not_le.mp h9))
theorem zv_s2 (xs : Nat → Int32) : zz_E zp_P zt_tf zt_fd (zt_X 6 xs) 1000 zm_law 33 zv_L [.int (nI 2)] zv_h zv_Q := by
  by_cases h : xs 1 = 0
  · have t : zz_E zp_P zt_tf zt_fd (zt_X 6 (fun q => if q = 1 then nI 0 else xs q)) 1000 zm_law 33 zv_L [.int (nI 2)] zv_h zv_Q := zv_k2_0 xs
    rw [zv_ov1 (show xs 1 = nI 0 from h)] at t
    exact t
  · by_cases g : xs 1 = 1
    · have t : zz_E zp_P zt_tf zt_fd (zt_X 6 (fun q => if q = 1 then nI 1 else xs q)) 1000 zm_law 33 zv_L [.int (nI 2)] zv_h zv_Q := zv_k2_1 xs
      rw [zv_ov1 (show xs 1 = nI 1 from g)] at t
      exact t
    · exact zv_g2 xs (by simp [zz_cond, h]) (by simp [zz_cond, h]) (by simp [zz_cond, g]) (by simp [zz_cond, g])
theorem zv_s3 (xs : Nat → Int32) : zz_E zp_P zt_tf zt_fd (zt_X 6 xs) 1000 zm_law 33 zv_L [.int (nI 3)] zv_h zv_Q := by
  by_cases h : zz_cond .lt (xs 1) 0 = true
  · exact zv_n3 xs h (decide_eq_false (Int32.not_le.mpr (of_decide_eq_true h)))
  · have h : zz_cond .lt (xs 1) 0 = false := by simpa using h
    exact zv_g3 xs h (zv_ge h)
theorem zv_s4 (xs : Nat → Int32) : zz_E zp_P zt_tf zt_fd (zt_X 6 xs) 1000 zm_law 33 zv_L [.int (nI 4)] zv_h zv_Q := by
  by_cases h : zz_cond .lt (xs 1) 0 = true
  · exact zv_n4 xs h (decide_eq_false (Int32.not_le.mpr (of_decide_eq_true h)))
  · have h : zz_cond .lt (xs 1) 0 = false := by simpa using h
    exact zv_g4 xs h (zv_ge h)
theorem zv_s6 (xs : Nat → Int32) : zz_E zp_P zt_tf zt_fd (zt_X 6 xs) 1000 zm_law 33 zv_L [.int (nI 6)] zv_h zv_Q := by
  by_cases h : zz_cond .lt (xs 1) 0 = true
  · exact zv_n6 xs h (decide_eq_false (Int32.not_le.mpr (of_decide_eq_true h)))
  · have h : zz_cond .lt (xs 1) 0 = false := by simpa using h
    exact zv_g6 xs h (zv_ge h)
set_option maxRecDepth 100000 in
set_option maxHeartbeats 4000000 in
theorem zv_six (xs : Nat → Int32) : zz_E zp_P zt_tf zt_fd (zt_X 6 xs) 1000 zm_law 18 zv_L [] zv_h zv_Q := by
  iterate 11 refine zz_E.i rfl rfl rfl ?_
  show zz_E zp_P zt_tf zt_fd (zt_X 6 xs) 1000 zm_law 33 zv_L [.int (xs 0 &&& 31)] zv_h zv_Q
  obtain ⟨j, hj, e⟩ := pk_andE (xs 0) (m := 31) 5 (by decide)
  rw [e]
  match j, hj with
  | 0, _ => exact zv_s0 xs
  | 1, _ => exact zv_s1 xs
  | 2, _ => exact zv_s2 xs
  | 3, _ => exact zv_s3 xs
  | 4, _ => exact zv_s4 xs
  | 5, _ => exact zv_of (congrFun zv_r5 xs)
  | 6, _ => exact zv_s6 xs
  | 7, _ => exact zv_of (congrFun zv_r7 xs)
  | 8, _ => exact zv_s8 xs
  | 9, _ => exact zv_s9 xs
  | 10, _ => exact zv_s10 xs
  | 11, _ => exact zv_s11 xs
  | 12, _ => exact zv_s12 xs
  | 13, _ => exact zv_s13 xs
  | 14, _ => exact zv_s14 xs
  | 15, _ => exact zv_s15 xs
  | 16, _ => exact zv_of (congrFun zv_r16 xs)
  | 17, _ => exact zv_of (congrFun zv_r17 xs)
  | 18, _ => exact zv_of (congrFun zv_r18 xs)
  | 19, _ => exact zv_of (congrFun zv_r19 xs)
  | 20, _ => exact zv_of (congrFun zv_r20 xs)
  | 21, _ => exact zv_of (congrFun zv_r21 xs)
  | 22, _ => exact zv_of (congrFun zv_r22 xs)
  | 23, _ => exact zv_of (congrFun zv_r23 xs)
  | 24, _ => exact zv_of (congrFun zv_r24 xs)
  | 25, _ => exact zv_of (congrFun zv_r25 xs)
  | 26, _ => exact zv_of (congrFun zv_r26 xs)
  | 27, _ => exact zv_of (congrFun zv_r27 xs)
  | 28, _ => exact zv_of (congrFun zv_r28 xs)
  | 29, _ => exact zv_of (congrFun zv_r29 xs)
  | 30, _ => exact zv_of (congrFun zv_r30 xs)
  | 31, _ => exact zv_of (congrFun zv_r31 xs)
  | j + 32, hj => exact absurd hj (by omega)
theorem zv_all {L : Nat} {xs : Nat → Int32} (hL : L ≤ 6) : zz_E zp_P zt_tf zt_fd (zt_X L xs) 1000 zm_law 0 [(0, .ref zz_out)] [] [] zv_Q := by
  refine zv_law ?_
  match L, hL with
  | 0, _ => exact zv_of (congrFun zv_end0 xs)
  | 1, _ => exact zv_of (congrFun zv_end1 xs)
  | 2, _ => exact zv_of (congrFun zv_end2 xs)
  | 3, _ => exact zv_of (congrFun zv_end3 xs)
  | 4, _ => exact zv_of (congrFun zv_end4 xs)
  | 5, _ => exact zv_of (congrFun zv_end5 xs)
  | 6, _ => exact zv_six xs
  | L + 7, h => exact absurd h (by omega)
