set_option maxRecDepth 100000 in
set_option maxHeartbeats 8000000 in
theorem zv_n8 (xs : Nat → Int32) (h0 : zz_cond .lt (xs 1) 0 = true) : zz_E zp_P zt_tf zt_fd (zt_X 6 xs) 1000 zm_law 33 zv_L [.int (nI 8)] zv_h zv_Q := by
  repeat (first
    | refine zz_E.i rfl rfl rfl ?_
    | refine zz_E.if1 rfl (by assumption) (by decide) ?_
    | refine zz_E.if2 rfl (by assumption) (by decide) ?_
    | refine zz_E.call rfl rfl (by decide) rfl rfl ⟨rfl, Nat.le_of_ble_eq_true rfl⟩ ?_
    | refine zz_E.ret rfl rfl rfl ?_
    | dsimp only)
  exact ⟨rfl, by decide +kernel, by decide +kernel⟩
set_option maxRecDepth 100000 in
set_option maxHeartbeats 8000000 in
theorem zv_g8 (xs : Nat → Int32) (h0 : zz_cond .lt (xs 1) 0 = false) (h1 : zz_cond .ge (xs 1) 8 = true) : zz_E zp_P zt_tf zt_fd (zt_X 6 xs) 1000 zm_law 33 zv_L [.int (nI 8)] zv_h zv_Q := by
  repeat (first
    | refine zz_E.i rfl rfl rfl ?_
    | refine zz_E.if1 rfl (by assumption) (by decide) ?_
    | refine zz_E.if2 rfl (by assumption) (by decide) ?_
    | refine zz_E.call rfl rfl (by decide) rfl rfl ⟨rfl, Nat.le_of_ble_eq_true rfl⟩ ?_
    | refine zz_E.ret rfl rfl rfl ?_
    | dsimp only)
  exact ⟨rfl, by decide +kernel, by decide +kernel⟩
set_option maxRecDepth 100000 in
set_option maxHeartbeats 8000000 in
theorem zv_n9 (xs : Nat → Int32) (h0 : zz_cond .lt (xs 1) 0 = true) : zz_E zp_P zt_tf zt_fd (zt_X 6 xs) 1000 zm_law 33 zv_L [.int (nI 9)] zv_h zv_Q := by
  repeat (first
    | refine zz_E.i rfl rfl rfl ?_
    | refine zz_E.if1 rfl (by assumption) (by decide) ?_
    | refine zz_E.if2 rfl (by assumption) (by decide) ?_
    | refine zz_E.call rfl rfl (by decide) rfl rfl ⟨rfl, Nat.le_of_ble_eq_true rfl⟩ ?_
    | refine zz_E.ret rfl rfl rfl ?_
    | dsimp only)
  exact ⟨rfl, by decide +kernel, by decide +kernel⟩
set_option maxRecDepth 100000 in
set_option maxHeartbeats 8000000 in
theorem zv_g9 (xs : Nat → Int32) (h0 : zz_cond .lt (xs 1) 0 = false) (h1 : zz_cond .ge (xs 1) 8 = true) : zz_E zp_P zt_tf zt_fd (zt_X 6 xs) 1000 zm_law 33 zv_L [.int (nI 9)] zv_h zv_Q := by
  repeat (first
    | refine zz_E.i rfl rfl rfl ?_
    | refine zz_E.if1 rfl (by assumption) (by decide) ?_
    | refine zz_E.if2 rfl (by assumption) (by decide) ?_
    | refine zz_E.call rfl rfl (by decide) rfl rfl ⟨rfl, Nat.le_of_ble_eq_true rfl⟩ ?_
    | refine zz_E.ret rfl rfl rfl ?_
    | dsimp only)
  exact ⟨rfl, by decide +kernel, by decide +kernel⟩
set_option maxRecDepth 100000 in
set_option maxHeartbeats 8000000 in
theorem zv_n10 (xs : Nat → Int32) (h0 : zz_cond .lt (xs 1) 0 = true) : zz_E zp_P zt_tf zt_fd (zt_X 6 xs) 1000 zm_law 33 zv_L [.int (nI 10)] zv_h zv_Q := by
  repeat (first
    | refine zz_E.i rfl rfl rfl ?_
    | refine zz_E.if1 rfl (by assumption) (by decide) ?_
    | refine zz_E.if2 rfl (by assumption) (by decide) ?_
    | refine zz_E.call rfl rfl (by decide) rfl rfl ⟨rfl, Nat.le_of_ble_eq_true rfl⟩ ?_
    | refine zz_E.ret rfl rfl rfl ?_
    | dsimp only)
  exact ⟨rfl, by decide +kernel, by decide +kernel⟩
set_option maxRecDepth 100000 in
set_option maxHeartbeats 8000000 in
theorem zv_g10 (xs : Nat → Int32) (h0 : zz_cond .lt (xs 1) 0 = false) (h1 : zz_cond .ge (xs 1) 8 = true) : zz_E zp_P zt_tf zt_fd (zt_X 6 xs) 1000 zm_law 33 zv_L [.int (nI 10)] zv_h zv_Q := by
  repeat (first
    | refine zz_E.i rfl rfl rfl ?_
    | refine zz_E.if1 rfl (by assumption) (by decide) ?_
    | refine zz_E.if2 rfl (by assumption) (by decide) ?_
    | refine zz_E.call rfl rfl (by decide) rfl rfl ⟨rfl, Nat.le_of_ble_eq_true rfl⟩ ?_
    | refine zz_E.ret rfl rfl rfl ?_
    | dsimp only)
  exact ⟨rfl, by decide +kernel, by decide +kernel⟩
set_option maxRecDepth 100000 in
set_option maxHeartbeats 8000000 in
theorem zv_n11 (xs : Nat → Int32) (h0 : zz_cond .lt (xs 1) 0 = true) : zz_E zp_P zt_tf zt_fd (zt_X 6 xs) 1000 zm_law 33 zv_L [.int (nI 11)] zv_h zv_Q := by
  repeat (first
    | refine zz_E.i rfl rfl rfl ?_
    | refine zz_E.if1 rfl (by assumption) (by decide) ?_
    | refine zz_E.if2 rfl (by assumption) (by decide) ?_
    | refine zz_E.call rfl rfl (by decide) rfl rfl ⟨rfl, Nat.le_of_ble_eq_true rfl⟩ ?_
    | refine zz_E.ret rfl rfl rfl ?_
    | dsimp only)
  exact ⟨rfl, by decide +kernel, by decide +kernel⟩
set_option maxRecDepth 100000 in
set_option maxHeartbeats 8000000 in
theorem zv_g11 (xs : Nat → Int32) (h0 : zz_cond .lt (xs 1) 0 = false) (h1 : zz_cond .ge (xs 1) 8 = true) : zz_E zp_P zt_tf zt_fd (zt_X 6 xs) 1000 zm_law 33 zv_L [.int (nI 11)] zv_h zv_Q := by
  repeat (first
    | refine zz_E.i rfl rfl rfl ?_
    | refine zz_E.if1 rfl (by assumption) (by decide) ?_
    | refine zz_E.if2 rfl (by assumption) (by decide) ?_
    | refine zz_E.call rfl rfl (by decide) rfl rfl ⟨rfl, Nat.le_of_ble_eq_true rfl⟩ ?_
    | refine zz_E.ret rfl rfl rfl ?_
    | dsimp only)
  exact ⟨rfl, by decide +kernel, by decide +kernel⟩
set_option maxRecDepth 100000 in
set_option maxHeartbeats 8000000 in
theorem zv_n12 (xs : Nat → Int32) (h0 : zz_cond .lt (xs 1) 0 = true) : zz_E zp_P zt_tf zt_fd (zt_X 6 xs) 1000 zm_law 33 zv_L [.int (nI 12)] zv_h zv_Q := by
  repeat (first
    | refine zz_E.i rfl rfl rfl ?_
    | refine zz_E.if1 rfl (by assumption) (by decide) ?_
    | refine zz_E.if2 rfl (by assumption) (by decide) ?_
    | refine zz_E.call rfl rfl (by decide) rfl rfl ⟨rfl, Nat.le_of_ble_eq_true rfl⟩ ?_
    | refine zz_E.ret rfl rfl rfl ?_
    | dsimp only)
  exact ⟨rfl, by decide +kernel, by decide +kernel⟩
set_option maxRecDepth 100000 in
set_option maxHeartbeats 8000000 in
theorem zv_g12 (xs : Nat → Int32) (h0 : zz_cond .lt (xs 1) 0 = false) (h1 : zz_cond .ge (xs 1) 8 = true) : zz_E zp_P zt_tf zt_fd (zt_X 6 xs) 1000 zm_law 33 zv_L [.int (nI 12)] zv_h zv_Q := by
  repeat (first
    | refine zz_E.i rfl rfl rfl ?_
    | refine zz_E.if1 rfl (by assumption) (by decide) ?_
    | refine zz_E.if2 rfl (by assumption) (by decide) ?_
    | refine zz_E.call rfl rfl (by decide) rfl rfl ⟨rfl, Nat.le_of_ble_eq_true rfl⟩ ?_
    | refine zz_E.ret rfl rfl rfl ?_
    | dsimp only)
  exact ⟨rfl, by decide +kernel, by decide +kernel⟩
set_option maxRecDepth 100000 in
set_option maxHeartbeats 8000000 in
theorem zv_n13 (xs : Nat → Int32) (h0 : zz_cond .lt (xs 1) 0 = true) : zz_E zp_P zt_tf zt_fd (zt_X 6 xs) 1000 zm_law 33 zv_L [.int (nI 13)] zv_h zv_Q := by
  repeat (first
    | refine zz_E.i rfl rfl rfl ?_
    | refine zz_E.if1 rfl (by assumption) (by decide) ?_
    | refine zz_E.if2 rfl (by assumption) (by decide) ?_
    | refine zz_E.call rfl rfl (by decide) rfl rfl ⟨rfl, Nat.le_of_ble_eq_true rfl⟩ ?_
    | refine zz_E.ret rfl rfl rfl ?_
    | dsimp only)
  exact ⟨rfl, by decide +kernel, by decide +kernel⟩
set_option maxRecDepth 100000 in
set_option maxHeartbeats 8000000 in
theorem zv_g13 (xs : Nat → Int32) (h0 : zz_cond .lt (xs 1) 0 = false) (h1 : zz_cond .ge (xs 1) 8 = true) : zz_E zp_P zt_tf zt_fd (zt_X 6 xs) 1000 zm_law 33 zv_L [.int (nI 13)] zv_h zv_Q := by
  repeat (first
    | refine zz_E.i rfl rfl rfl ?_
    | refine zz_E.if1 rfl (by assumption) (by decide) ?_
    | refine zz_E.if2 rfl (by assumption) (by decide) ?_
    | refine zz_E.call rfl rfl (by decide) rfl rfl ⟨rfl, Nat.le_of_ble_eq_true rfl⟩ ?_
    | refine zz_E.ret rfl rfl rfl ?_
    | dsimp only)
  exact ⟨rfl, by decide +kernel, by decide +kernel⟩
set_option maxRecDepth 100000 in
set_option maxHeartbeats 8000000 in
theorem zv_n14 (xs : Nat → Int32) (h0 : zz_cond .lt (xs 1) 0 = true) : zz_E zp_P zt_tf zt_fd (zt_X 6 xs) 1000 zm_law 33 zv_L [.int (nI 14)] zv_h zv_Q := by
  repeat (first
    | refine zz_E.i rfl rfl rfl ?_
    | refine zz_E.if1 rfl (by assumption) (by decide) ?_
    | refine zz_E.if2 rfl (by assumption) (by decide) ?_
    | refine zz_E.call rfl rfl (by decide) rfl rfl ⟨rfl, Nat.le_of_ble_eq_true rfl⟩ ?_
    | refine zz_E.ret rfl rfl rfl ?_
    | dsimp only)
  exact ⟨rfl, by decide +kernel, by decide +kernel⟩
set_option maxRecDepth 100000 in
set_option maxHeartbeats 8000000 in
theorem zv_g14 (xs : Nat → Int32) (h0 : zz_cond .lt (xs 1) 0 = false) (h1 : zz_cond .ge (xs 1) 8 = true) : zz_E zp_P zt_tf zt_fd (zt_X 6 xs) 1000 zm_law 33 zv_L [.int (nI 14)] zv_h zv_Q := by
  repeat (first
    | refine zz_E.i rfl rfl rfl ?_
    | refine zz_E.if1 rfl (by assumption) (by decide) ?_
    | refine zz_E.if2 rfl (by assumption) (by decide) ?_
    | refine zz_E.call rfl rfl (by decide) rfl rfl ⟨rfl, Nat.le_of_ble_eq_true rfl⟩ ?_
    | refine zz_E.ret rfl rfl rfl ?_
    | dsimp only)
  exact ⟨rfl, by decide +kernel, by decide +kernel⟩
set_option maxRecDepth 100000 in
set_option maxHeartbeats 8000000 in
theorem zv_n15 (xs : Nat → Int32) (h0 : zz_cond .lt (xs 1) 0 = true) : zz_E zp_P zt_tf zt_fd (zt_X 6 xs) 1000 zm_law 33 zv_L [.int (nI 15)] zv_h zv_Q := by
  repeat (first
    | refine zz_E.i rfl rfl rfl ?_
    | refine zz_E.if1 rfl (by assumption) (by decide) ?_
    | refine zz_E.if2 rfl (by assumption) (by decide) ?_
    | refine zz_E.call rfl rfl (by decide) rfl rfl ⟨rfl, Nat.le_of_ble_eq_true rfl⟩ ?_
    | refine zz_E.ret rfl rfl rfl ?_
    | dsimp only)
  exact ⟨rfl, by decide +kernel, by decide +kernel⟩
set_option maxRecDepth 100000 in
set_option maxHeartbeats 8000000 in
theorem zv_g15 (xs : Nat → Int32) (h0 : zz_cond .lt (xs 1) 0 = false) (h1 : zz_cond .ge (xs 1) 8 = true) : zz_E zp_P zt_tf zt_fd (zt_X 6 xs) 1000 zm_law 33 zv_L [.int (nI 15)] zv_h zv_Q := by
  repeat (first
    | refine zz_E.i rfl rfl rfl ?_
    | refine zz_E.if1 rfl (by assumption) (by decide) ?_
    | refine zz_E.if2 rfl (by assumption) (by decide) ?_
    | refine zz_E.call rfl rfl (by decide) rfl rfl ⟨rfl, Nat.le_of_ble_eq_true rfl⟩ ?_
    | refine zz_E.ret rfl rfl rfl ?_
    | dsimp only)
  exact ⟨rfl, by decide +kernel, by decide +kernel⟩
set_option maxRecDepth 100000 in
set_option maxHeartbeats 8000000 in
theorem zv_n15b (xs : Nat → Int32) (h0 : zz_cond .lt (xs 1) 0 = false) (h1 : zz_cond .ge (xs 1) 8 = false) (h2 : zz_cond .lt (xs 2) 0 = true) : zz_E zp_P zt_tf zt_fd (zt_X 6 xs) 1000 zm_law 33 zv_L [.int (nI 15)] zv_h zv_Q := by
  repeat (first
    | refine zz_E.i rfl rfl rfl ?_
    | refine zz_E.if1 rfl (by assumption) (by decide) ?_
    | refine zz_E.if2 rfl (by assumption) (by decide) ?_
    | refine zz_E.call rfl rfl (by decide) rfl rfl ⟨rfl, Nat.le_of_ble_eq_true rfl⟩ ?_
    | refine zz_E.ret rfl rfl rfl ?_
    | dsimp only)
  exact ⟨rfl, by decide +kernel, by decide +kernel⟩
set_option maxRecDepth 100000 in
set_option maxHeartbeats 8000000 in
theorem zv_g15b (xs : Nat → Int32) (h0 : zz_cond .lt (xs 1) 0 = false) (h1 : zz_cond .ge (xs 1) 8 = false) (h2 : zz_cond .lt (xs 2) 0 = false) (h3 : zz_cond .ge (xs 2) 8 = true) : zz_E zp_P zt_tf zt_fd (zt_X 6 xs) 1000 zm_law 33 zv_L [.int (nI 15)] zv_h zv_Q := by
  repeat (first
    | refine zz_E.i rfl rfl rfl ?_
    | refine zz_E.if1 rfl (by assumption) (by decide) ?_
    | refine zz_E.if2 rfl (by assumption) (by decide) ?_
    | refine zz_E.call rfl rfl (by decide) rfl rfl ⟨rfl, Nat.le_of_ble_eq_true rfl⟩ ?_
    | refine zz_E.ret rfl rfl rfl ?_
    | dsimp only)
  exact ⟨rfl, by decide +kernel, by decide +kernel⟩
set_option maxRecDepth 100000 in
set_option maxHeartbeats 8000000 in
theorem zv_n1 (xs : Nat → Int32) (h0 : zz_cond .lt (xs 1) 0 = true) : zz_E zp_P zt_tf zt_fd (zt_X 6 xs) 1000 zm_law 33 zv_L [.int (nI 1)] zv_h zv_Q := by
  repeat (first
    | refine zz_E.i rfl rfl rfl ?_
    | refine zz_E.if1 rfl (by assumption) (by decide) ?_
    | refine zz_E.if2 rfl (by assumption) (by decide) ?_
    | refine zz_E.call rfl rfl (by decide) rfl rfl ⟨rfl, Nat.le_of_ble_eq_true rfl⟩ ?_
    | refine zz_E.ret rfl rfl rfl ?_
    | dsimp only)
  exact ⟨rfl, by decide +kernel, by decide +kernel⟩
set_option maxRecDepth 100000 in
set_option maxHeartbeats 8000000 in
theorem zv_g1 (xs : Nat → Int32) (h0 : zz_cond .lt (xs 1) 0 = false) (h1 : zz_cond .ge (xs 1) 0 = true) (h2 : zz_cond .le (xs 1) 0 = false) (h3 : zz_cond .gt (xs 1) 0 = true) : zz_E zp_P zt_tf zt_fd (zt_X 6 xs) 1000 zm_law 33 zv_L [.int (nI 1)] zv_h zv_Q := by
  repeat (first
    | refine zz_E.i rfl rfl rfl ?_
    | refine zz_E.if1 rfl (by assumption) (by decide) ?_
    | refine zz_E.if2 rfl (by assumption) (by decide) ?_
    | refine zz_E.call rfl rfl (by decide) rfl rfl ⟨rfl, Nat.le_of_ble_eq_true rfl⟩ ?_
    | refine zz_E.ret rfl rfl rfl ?_
    | dsimp only)
  exact ⟨rfl, by decide +kernel, by decide +kernel⟩
set_option maxRecDepth 100000 in
set_option maxHeartbeats 8000000 in
theorem zv_g2 (xs : Nat → Int32) (h0 : zz_cond .ne (xs 1) 0 = true) (h1 : zz_cond .eq (xs 1) 0 = false) (h2 : zz_cond .ne (xs 1) 1 = true) (h3 : zz_cond .eq (xs 1) 1 = false) : zz_E zp_P zt_tf zt_fd (zt_X 6 xs) 1000 zm_law 33 zv_L [.int (nI 2)] zv_h zv_Q := by
  repeat (first
    | refine zz_E.i rfl rfl rfl ?_
    | refine zz_E.if1 rfl (by assumption) (by decide) ?_
    | refine zz_E.if2 rfl (by assumption) (by decide) ?_
    | refine zz_E.call rfl rfl (by decide) rfl rfl ⟨rfl, Nat.le_of_ble_eq_true rfl⟩ ?_
    | refine zz_E.ret rfl rfl rfl ?_
    | dsimp only)
  exact ⟨rfl, by decide +kernel, by decide +kernel⟩
set_option maxRecDepth 100000 in
set_option maxHeartbeats 8000000 in
theorem zv_n3 (xs : Nat → Int32) (h0 : zz_cond .lt (xs 1) 0 = true) (h1 : zz_cond .ge (xs 1) 0 = false) : zz_E zp_P zt_tf zt_fd (zt_X 6 xs) 1000 zm_law 33 zv_L [.int (nI 3)] zv_h zv_Q := by
  repeat (first
    | refine zz_E.i rfl rfl rfl ?_
    | refine zz_E.if1 rfl (by assumption) (by decide) ?_
    | refine zz_E.if2 rfl (by assumption) (by decide) ?_
    | refine zz_E.call rfl rfl (by decide) rfl rfl ⟨rfl, Nat.le_of_ble_eq_true rfl⟩ ?_
    | refine zz_E.ret rfl rfl rfl ?_
    | dsimp only)
  exact ⟨rfl, by decide +kernel, by decide +kernel⟩
set_option maxRecDepth 100000 in
set_option maxHeartbeats 8000000 in
theorem zv_g3 (xs : Nat → Int32) (h0 : zz_cond .lt (xs 1) 0 = false) (h1 : zz_cond .ge (xs 1) 0 = true) : zz_E zp_P zt_tf zt_fd (zt_X 6 xs) 1000 zm_law 33 zv_L [.int (nI 3)] zv_h zv_Q := by
  repeat (first
    | refine zz_E.i rfl rfl rfl ?_
    | refine zz_E.if1 rfl (by assumption) (by decide) ?_
    | refine zz_E.if2 rfl (by assumption) (by decide) ?_
    | refine zz_E.call rfl rfl (by decide) rfl rfl ⟨rfl, Nat.le_of_ble_eq_true rfl⟩ ?_
    | refine zz_E.ret rfl rfl rfl ?_
    | dsimp only)
  exact ⟨rfl, by decide +kernel, by decide +kernel⟩
set_option maxRecDepth 100000 in
set_option maxHeartbeats 8000000 in
theorem zv_n4 (xs : Nat → Int32) (h0 : zz_cond .lt (xs 1) 0 = true) (h1 : zz_cond .ge (xs 1) 0 = false) : zz_E zp_P zt_tf zt_fd (zt_X 6 xs) 1000 zm_law 33 zv_L [.int (nI 4)] zv_h zv_Q := by
  repeat (first
    | refine zz_E.i rfl rfl rfl ?_
    | refine zz_E.if1 rfl (by assumption) (by decide) ?_
    | refine zz_E.if2 rfl (by assumption) (by decide) ?_
    | refine zz_E.call rfl rfl (by decide) rfl rfl ⟨rfl, Nat.le_of_ble_eq_true rfl⟩ ?_
    | refine zz_E.ret rfl rfl rfl ?_
    | dsimp only)
  exact ⟨rfl, by decide +kernel, by decide +kernel⟩
set_option maxRecDepth 100000 in
set_option maxHeartbeats 8000000 in
theorem zv_g4 (xs : Nat → Int32) (h0 : zz_cond .lt (xs 1) 0 = false) (h1 : zz_cond .ge (xs 1) 0 = true) : zz_E zp_P zt_tf zt_fd (zt_X 6 xs) 1000 zm_law 33 zv_L [.int (nI 4)] zv_h zv_Q := by
  repeat (first
    | refine zz_E.i rfl rfl rfl ?_
    | refine zz_E.if1 rfl (by assumption) (by decide) ?_
    | refine zz_E.if2 rfl (by assumption) (by decide) ?_
    | refine zz_E.call rfl rfl (by decide) rfl rfl ⟨rfl, Nat.le_of_ble_eq_true rfl⟩ ?_
    | refine zz_E.ret rfl rfl rfl ?_
    | dsimp only)
  exact ⟨rfl, by decide +kernel, by decide +kernel⟩
set_option maxRecDepth 100000 in
set_option maxHeartbeats 8000000 in
theorem zv_n6 (xs : Nat → Int32) (h0 : zz_cond .lt (xs 1) 0 = true) (h1 : zz_cond .ge (xs 1) 0 = false) : zz_E zp_P zt_tf zt_fd (zt_X 6 xs) 1000 zm_law 33 zv_L [.int (nI 6)] zv_h zv_Q := by
  repeat (first
    | refine zz_E.i rfl rfl rfl ?_
    | refine zz_E.if1 rfl (by assumption) (by decide) ?_
    | refine zz_E.if2 rfl (by assumption) (by decide) ?_
    | refine zz_E.call rfl rfl (by decide) rfl rfl ⟨rfl, Nat.le_of_ble_eq_true rfl⟩ ?_
    | refine zz_E.ret rfl rfl rfl ?_
    | dsimp only)
  exact ⟨rfl, by decide +kernel, by decide +kernel⟩
set_option maxRecDepth 100000 in
set_option maxHeartbeats 8000000 in
theorem zv_g6 (xs : Nat → Int32) (h0 : zz_cond .lt (xs 1) 0 = false) (h1 : zz_cond .ge (xs 1) 0 = true) : zz_E zp_P zt_tf zt_fd (zt_X 6 xs) 1000 zm_law 33 zv_L [.int (nI 6)] zv_h zv_Q := by
  repeat (first
    | refine zz_E.i rfl rfl rfl ?_
    | refine zz_E.if1 rfl (by assumption) (by decide) ?_
    | refine zz_E.if2 rfl (by assumption) (by decide) ?_
    | refine zz_E.call rfl rfl (by decide) rfl rfl ⟨rfl, Nat.le_of_ble_eq_true rfl⟩ ?_
    | refine zz_E.ret rfl rfl rfl ?_
    | dsimp only)
  exact ⟨rfl, by decide +kernel, by decide +kernel⟩
