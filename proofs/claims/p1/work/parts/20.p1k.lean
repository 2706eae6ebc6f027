set_option maxRecDepth 100000 in
theorem zv_r5 : (fun xs : Nat → Int32 => (zz_run zp_P zt_tf zt_fd (zt_X 6 xs) 3000 1000 zm_law 33 zv_L [.int (nI 5)] zv_h).map zv_ob) = (fun _ => some (some (.int 1), true, true)) := by rfl
set_option maxRecDepth 100000 in
theorem zv_r7 : (fun xs : Nat → Int32 => (zz_run zp_P zt_tf zt_fd (zt_X 6 xs) 3000 1000 zm_law 33 zv_L [.int (nI 7)] zv_h).map zv_ob) = (fun _ => some (some (.int 1), true, true)) := by rfl
set_option maxRecDepth 100000 in
theorem zv_r16 : (fun xs : Nat → Int32 => (zz_run zp_P zt_tf zt_fd (zt_X 6 xs) 3000 1000 zm_law 33 zv_L [.int (nI 16)] zv_h).map zv_ob) = (fun _ => some (some (.int 1), true, true)) := by rfl
set_option maxRecDepth 100000 in
theorem zv_r17 : (fun xs : Nat → Int32 => (zz_run zp_P zt_tf zt_fd (zt_X 6 xs) 3000 1000 zm_law 33 zv_L [.int (nI 17)] zv_h).map zv_ob) = (fun _ => some (some (.int 1), true, true)) := by rfl
set_option maxRecDepth 100000 in
theorem zv_r18 : (fun xs : Nat → Int32 => (zz_run zp_P zt_tf zt_fd (zt_X 6 xs) 3000 1000 zm_law 33 zv_L [.int (nI 18)] zv_h).map zv_ob) = (fun _ => some (some (.int 1), true, true)) := by rfl
set_option maxRecDepth 100000 in
theorem zv_r19 : (fun xs : Nat → Int32 => (zz_run zp_P zt_tf zt_fd (zt_X 6 xs) 3000 1000 zm_law 33 zv_L [.int (nI 19)] zv_h).map zv_ob) = (fun _ => some (some (.int 1), true, true)) := by rfl
set_option maxRecDepth 100000 in
theorem zv_r20 : (fun xs : Nat → Int32 => (zz_run zp_P zt_tf zt_fd (zt_X 6 xs) 3000 1000 zm_law 33 zv_L [.int (nI 20)] zv_h).map zv_ob) = (fun _ => some (some (.int 1), true, true)) := by rfl
set_option maxRecDepth 100000 in
theorem zv_r21 : (fun xs : Nat → Int32 => (zz_run zp_P zt_tf zt_fd (zt_X 6 xs) 3000 1000 zm_law 33 zv_L [.int (nI 21)] zv_h).map zv_ob) = (fun _ => some (some (.int 1), true, true)) := by rfl
set_option maxRecDepth 100000 in
theorem zv_r22 : (fun xs : Nat → Int32 => (zz_run zp_P zt_tf zt_fd (zt_X 6 xs) 3000 1000 zm_law 33 zv_L [.int (nI 22)] zv_h).map zv_ob) = (fun _ => some (some (.int 1), true, true)) := by rfl
set_option maxRecDepth 100000 in
theorem zv_r23 : (fun xs : Nat → Int32 => (zz_run zp_P zt_tf zt_fd (zt_X 6 xs) 3000 1000 zm_law 33 zv_L [.int (nI 23)] zv_h).map zv_ob) = (fun _ => some (some (.int 1), true, true)) := by rfl
set_option maxRecDepth 100000 in
theorem zv_r24 : (fun xs : Nat → Int32 => (zz_run zp_P zt_tf zt_fd (zt_X 6 xs) 3000 1000 zm_law 33 zv_L [.int (nI 24)] zv_h).map zv_ob) = (fun _ => some (some (.int 1), true, true)) := by rfl
set_option maxRecDepth 100000 in
theorem zv_r25 : (fun xs : Nat → Int32 => (zz_run zp_P zt_tf zt_fd (zt_X 6 xs) 3000 1000 zm_law 33 zv_L [.int (nI 25)] zv_h).map zv_ob) = (fun _ => some (some (.int 1), true, true)) := by rfl
set_option maxRecDepth 100000 in
theorem zv_r26 : (fun xs : Nat → Int32 => (zz_run zp_P zt_tf zt_fd (zt_X 6 xs) 3000 1000 zm_law 33 zv_L [.int (nI 26)] zv_h).map zv_ob) = (fun _ => some (some (.int 1), true, true)) := by rfl
set_option maxRecDepth 100000 in
theorem zv_r27 : (fun xs : Nat → Int32 => (zz_run zp_P zt_tf zt_fd (zt_X 6 xs) 3000 1000 zm_law 33 zv_L [.int (nI 27)] zv_h).map zv_ob) = (fun _ => some (some (.int 1), true, true)) := by rfl
set_option maxRecDepth 100000 in
theorem zv_r28 : (fun xs : Nat → Int32 => (zz_run zp_P zt_tf zt_fd (zt_X 6 xs) 3000 1000 zm_law 33 zv_L [.int (nI 28)] zv_h).map zv_ob) = (fun _ => some (some (.int 1), true, true)) := by rfl
set_option maxRecDepth 100000 in
theorem zv_r29 : (fun xs : Nat → Int32 => (zz_run zp_P zt_tf zt_fd (zt_X 6 xs) 3000 1000 zm_law 33 zv_L [.int (nI 29)] zv_h).map zv_ob) = (fun _ => some (some (.int 1), true, true)) := by rfl
set_option maxRecDepth 100000 in
theorem zv_r30 : (fun xs : Nat → Int32 => (zz_run zp_P zt_tf zt_fd (zt_X 6 xs) 3000 1000 zm_law 33 zv_L [.int (nI 30)] zv_h).map zv_ob) = (fun _ => some (some (.int 1), true, true)) := by rfl
set_option maxRecDepth 100000 in
theorem zv_r31 : (fun xs : Nat → Int32 => (zz_run zp_P zt_tf zt_fd (zt_X 6 xs) 3000 1000 zm_law 33 zv_L [.int (nI 31)] zv_h).map zv_ob) = (fun _ => some (some (.int 1), true, true)) := by rfl
