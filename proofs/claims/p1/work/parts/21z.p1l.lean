set_option maxRecDepth 100000 in
set_option maxHeartbeats 100000000 in
theorem zv_r1_0 : (fun xs : Nat → Int32 => (zz_run zp_P zt_tf zt_fd (zt_X 6 (fun q => if q = 1 then nI 0 else xs q)) 3000 1000 zm_law 33 zv_L [.int (nI 1)] zv_h).map zv_ob) = (fun _ => some (some (.int 1), true, true)) := by rfl
theorem zv_k1_0 (xs : Nat → Int32) : zz_E zp_P zt_tf zt_fd (zt_X 6 (fun q => if q = 1 then nI 0 else xs q)) 1000 zm_law 33 zv_L [.int (nI 1)] zv_h zv_Q := zv_of (congrFun zv_r1_0 xs)
