set_option maxRecDepth 100000 in
theorem zv_k8_0 : (fun xs : Nat → Int32 => (zz_run zp_P zt_tf zt_fd (zt_X 6 (fun q => if q = 1 then nI 0 else xs q)) 3000 1000 zm_law 33 zv_L [.int (nI 8)] zv_h).map zv_ob) = (fun _ => some (some (.int 1), true, true)) := by rfl
set_option maxRecDepth 100000 in
theorem zv_k8_1 : (fun xs : Nat → Int32 => (zz_run zp_P zt_tf zt_fd (zt_X 6 (fun q => if q = 1 then nI 1 else xs q)) 3000 1000 zm_law 33 zv_L [.int (nI 8)] zv_h).map zv_ob) = (fun _ => some (some (.int 1), true, true)) := by rfl
set_option maxRecDepth 100000 in
theorem zv_k8_2 : (fun xs : Nat → Int32 => (zz_run zp_P zt_tf zt_fd (zt_X 6 (fun q => if q = 1 then nI 2 else xs q)) 3000 1000 zm_law 33 zv_L [.int (nI 8)] zv_h).map zv_ob) = (fun _ => some (some (.int 1), true, true)) := by rfl
set_option maxRecDepth 100000 in
theorem zv_k8_3 : (fun xs : Nat → Int32 => (zz_run zp_P zt_tf zt_fd (zt_X 6 (fun q => if q = 1 then nI 3 else xs q)) 3000 1000 zm_law 33 zv_L [.int (nI 8)] zv_h).map zv_ob) = (fun _ => some (some (.int 1), true, true)) := by rfl
set_option maxRecDepth 100000 in
theorem zv_k8_4 : (fun xs : Nat → Int32 => (zz_run zp_P zt_tf zt_fd (zt_X 6 (fun q => if q = 1 then nI 4 else xs q)) 3000 1000 zm_law 33 zv_L [.int (nI 8)] zv_h).map zv_ob) = (fun _ => some (some (.int 1), true, true)) := by rfl
set_option maxRecDepth 100000 in
theorem zv_k8_5 : (fun xs : Nat → Int32 => (zz_run zp_P zt_tf zt_fd (zt_X 6 (fun q => if q = 1 then nI 5 else xs q)) 3000 1000 zm_law 33 zv_L [.int (nI 8)] zv_h).map zv_ob) = (fun _ => some (some (.int 1), true, true)) := by rfl
set_option maxRecDepth 100000 in
theorem zv_k8_6 : (fun xs : Nat → Int32 => (zz_run zp_P zt_tf zt_fd (zt_X 6 (fun q => if q = 1 then nI 6 else xs q)) 3000 1000 zm_law 33 zv_L [.int (nI 8)] zv_h).map zv_ob) = (fun _ => some (some (.int 1), true, true)) := by rfl
set_option maxRecDepth 100000 in
theorem zv_k8_7 : (fun xs : Nat → Int32 => (zz_run zp_P zt_tf zt_fd (zt_X 6 (fun q => if q = 1 then nI 7 else xs q)) 3000 1000 zm_law 33 zv_L [.int (nI 8)] zv_h).map zv_ob) = (fun _ => some (some (.int 1), true, true)) := by rfl
set_option maxRecDepth 100000 in
theorem zv_k9_0 : (fun xs : Nat → Int32 => (zz_run zp_P zt_tf zt_fd (zt_X 6 (fun q => if q = 1 then nI 0 else xs q)) 3000 1000 zm_law 33 zv_L [.int (nI 9)] zv_h).map zv_ob) = (fun _ => some (some (.int 1), true, true)) := by rfl
set_option maxRecDepth 100000 in
theorem zv_k9_1 : (fun xs : Nat → Int32 => (zz_run zp_P zt_tf zt_fd (zt_X 6 (fun q => if q = 1 then nI 1 else xs q)) 3000 1000 zm_law 33 zv_L [.int (nI 9)] zv_h).map zv_ob) = (fun _ => some (some (.int 1), true, true)) := by rfl
set_option maxRecDepth 100000 in
theorem zv_k9_2 : (fun xs : Nat → Int32 => (zz_run zp_P zt_tf zt_fd (zt_X 6 (fun q => if q = 1 then nI 2 else xs q)) 3000 1000 zm_law 33 zv_L [.int (nI 9)] zv_h).map zv_ob) = (fun _ => some (some (.int 1), true, true)) := by rfl
set_option maxRecDepth 100000 in
theorem zv_k9_3 : (fun xs : Nat → Int32 => (zz_run zp_P zt_tf zt_fd (zt_X 6 (fun q => if q = 1 then nI 3 else xs q)) 3000 1000 zm_law 33 zv_L [.int (nI 9)] zv_h).map zv_ob) = (fun _ => some (some (.int 1), true, true)) := by rfl
set_option maxRecDepth 100000 in
theorem zv_k9_4 : (fun xs : Nat → Int32 => (zz_run zp_P zt_tf zt_fd (zt_X 6 (fun q => if q = 1 then nI 4 else xs q)) 3000 1000 zm_law 33 zv_L [.int (nI 9)] zv_h).map zv_ob) = (fun _ => some (some (.int 1), true, true)) := by rfl
set_option maxRecDepth 100000 in
theorem zv_k9_5 : (fun xs : Nat → Int32 => (zz_run zp_P zt_tf zt_fd (zt_X 6 (fun q => if q = 1 then nI 5 else xs q)) 3000 1000 zm_law 33 zv_L [.int (nI 9)] zv_h).map zv_ob) = (fun _ => some (some (.int 1), true, true)) := by rfl
set_option maxRecDepth 100000 in
theorem zv_k9_6 : (fun xs : Nat → Int32 => (zz_run zp_P zt_tf zt_fd (zt_X 6 (fun q => if q = 1 then nI 6 else xs q)) 3000 1000 zm_law 33 zv_L [.int (nI 9)] zv_h).map zv_ob) = (fun _ => some (some (.int 1), true, true)) := by rfl
set_option maxRecDepth 100000 in
theorem zv_k9_7 : (fun xs : Nat → Int32 => (zz_run zp_P zt_tf zt_fd (zt_X 6 (fun q => if q = 1 then nI 7 else xs q)) 3000 1000 zm_law 33 zv_L [.int (nI 9)] zv_h).map zv_ob) = (fun _ => some (some (.int 1), true, true)) := by rfl
set_option maxRecDepth 100000 in
theorem zv_k10_0 : (fun xs : Nat → Int32 => (zz_run zp_P zt_tf zt_fd (zt_X 6 (fun q => if q = 1 then nI 0 else xs q)) 3000 1000 zm_law 33 zv_L [.int (nI 10)] zv_h).map zv_ob) = (fun _ => some (some (.int 1), true, true)) := by rfl
set_option maxRecDepth 100000 in
theorem zv_k10_1 : (fun xs : Nat → Int32 => (zz_run zp_P zt_tf zt_fd (zt_X 6 (fun q => if q = 1 then nI 1 else xs q)) 3000 1000 zm_law 33 zv_L [.int (nI 10)] zv_h).map zv_ob) = (fun _ => some (some (.int 1), true, true)) := by rfl
set_option maxRecDepth 100000 in
theorem zv_k10_2 : (fun xs : Nat → Int32 => (zz_run zp_P zt_tf zt_fd (zt_X 6 (fun q => if q = 1 then nI 2 else xs q)) 3000 1000 zm_law 33 zv_L [.int (nI 10)] zv_h).map zv_ob) = (fun _ => some (some (.int 1), true, true)) := by rfl
set_option maxRecDepth 100000 in
theorem zv_k10_3 : (fun xs : Nat → Int32 => (zz_run zp_P zt_tf zt_fd (zt_X 6 (fun q => if q = 1 then nI 3 else xs q)) 3000 1000 zm_law 33 zv_L [.int (nI 10)] zv_h).map zv_ob) = (fun _ => some (some (.int 1), true, true)) := by rfl
set_option maxRecDepth 100000 in
theorem zv_k10_4 : (fun xs : Nat → Int32 => (zz_run zp_P zt_tf zt_fd (zt_X 6 (fun q => if q = 1 then nI 4 else xs q)) 3000 1000 zm_law 33 zv_L [.int (nI 10)] zv_h).map zv_ob) = (fun _ => some (some (.int 1), true, true)) := by rfl
set_option maxRecDepth 100000 in
theorem zv_k10_5 : (fun xs : Nat → Int32 => (zz_run zp_P zt_tf zt_fd (zt_X 6 (fun q => if q = 1 then nI 5 else xs q)) 3000 1000 zm_law 33 zv_L [.int (nI 10)] zv_h).map zv_ob) = (fun _ => some (some (.int 1), true, true)) := by rfl
set_option maxRecDepth 100000 in
theorem zv_k10_6 : (fun xs : Nat → Int32 => (zz_run zp_P zt_tf zt_fd (zt_X 6 (fun q => if q = 1 then nI 6 else xs q)) 3000 1000 zm_law 33 zv_L [.int (nI 10)] zv_h).map zv_ob) = (fun _ => some (some (.int 1), true, true)) := by rfl
set_option maxRecDepth 100000 in
theorem zv_k10_7 : (fun xs : Nat → Int32 => (zz_run zp_P zt_tf zt_fd (zt_X 6 (fun q => if q = 1 then nI 7 else xs q)) 3000 1000 zm_law 33 zv_L [.int (nI 10)] zv_h).map zv_ob) = (fun _ => some (some (.int 1), true, true)) := by rfl
set_option maxRecDepth 100000 in
theorem zv_k11_0 : (fun xs : Nat → Int32 => (zz_run zp_P zt_tf zt_fd (zt_X 6 (fun q => if q = 1 then nI 0 else xs q)) 3000 1000 zm_law 33 zv_L [.int (nI 11)] zv_h).map zv_ob) = (fun _ => some (some (.int 1), true, true)) := by rfl
set_option maxRecDepth 100000 in
theorem zv_k11_1 : (fun xs : Nat → Int32 => (zz_run zp_P zt_tf zt_fd (zt_X 6 (fun q => if q = 1 then nI 1 else xs q)) 3000 1000 zm_law 33 zv_L [.int (nI 11)] zv_h).map zv_ob) = (fun _ => some (some (.int 1), true, true)) := by rfl
set_option maxRecDepth 100000 in
theorem zv_k11_2 : (fun xs : Nat → Int32 => (zz_run zp_P zt_tf zt_fd (zt_X 6 (fun q => if q = 1 then nI 2 else xs q)) 3000 1000 zm_law 33 zv_L [.int (nI 11)] zv_h).map zv_ob) = (fun _ => some (some (.int 1), true, true)) := by rfl
set_option maxRecDepth 100000 in
theorem zv_k11_3 : (fun xs : Nat → Int32 => (zz_run zp_P zt_tf zt_fd (zt_X 6 (fun q => if q = 1 then nI 3 else xs q)) 3000 1000 zm_law 33 zv_L [.int (nI 11)] zv_h).map zv_ob) = (fun _ => some (some (.int 1), true, true)) := by rfl
set_option maxRecDepth 100000 in
theorem zv_k11_4 : (fun xs : Nat → Int32 => (zz_run zp_P zt_tf zt_fd (zt_X 6 (fun q => if q = 1 then nI 4 else xs q)) 3000 1000 zm_law 33 zv_L [.int (nI 11)] zv_h).map zv_ob) = (fun _ => some (some (.int 1), true, true)) := by rfl
set_option maxRecDepth 100000 in
theorem zv_k11_5 : (fun xs : Nat → Int32 => (zz_run zp_P zt_tf zt_fd (zt_X 6 (fun q => if q = 1 then nI 5 else xs q)) 3000 1000 zm_law 33 zv_L [.int (nI 11)] zv_h).map zv_ob) = (fun _ => some (some (.int 1), true, true)) := by rfl
set_option maxRecDepth 100000 in
theorem zv_k11_6 : (fun xs : Nat → Int32 => (zz_run zp_P zt_tf zt_fd (zt_X 6 (fun q => if q = 1 then nI 6 else xs q)) 3000 1000 zm_law 33 zv_L [.int (nI 11)] zv_h).map zv_ob) = (fun _ => some (some (.int 1), true, true)) := by rfl
set_option maxRecDepth 100000 in
theorem zv_k11_7 : (fun xs : Nat → Int32 => (zz_run zp_P zt_tf zt_fd (zt_X 6 (fun q => if q = 1 then nI 7 else xs q)) 3000 1000 zm_law 33 zv_L [.int (nI 11)] zv_h).map zv_ob) = (fun _ => some (some (.int 1), true, true)) := by rfl
set_option maxRecDepth 100000 in
theorem zv_k12_0 : (fun xs : Nat → Int32 => (zz_run zp_P zt_tf zt_fd (zt_X 6 (fun q => if q = 1 then nI 0 else xs q)) 3000 1000 zm_law 33 zv_L [.int (nI 12)] zv_h).map zv_ob) = (fun _ => some (some (.int 1), true, true)) := by rfl
set_option maxRecDepth 100000 in
theorem zv_k12_1 : (fun xs : Nat → Int32 => (zz_run zp_P zt_tf zt_fd (zt_X 6 (fun q => if q = 1 then nI 1 else xs q)) 3000 1000 zm_law 33 zv_L [.int (nI 12)] zv_h).map zv_ob) = (fun _ => some (some (.int 1), true, true)) := by rfl
set_option maxRecDepth 100000 in
theorem zv_k12_2 : (fun xs : Nat → Int32 => (zz_run zp_P zt_tf zt_fd (zt_X 6 (fun q => if q = 1 then nI 2 else xs q)) 3000 1000 zm_law 33 zv_L [.int (nI 12)] zv_h).map zv_ob) = (fun _ => some (some (.int 1), true, true)) := by rfl
set_option maxRecDepth 100000 in
theorem zv_k12_3 : (fun xs : Nat → Int32 => (zz_run zp_P zt_tf zt_fd (zt_X 6 (fun q => if q = 1 then nI 3 else xs q)) 3000 1000 zm_law 33 zv_L [.int (nI 12)] zv_h).map zv_ob) = (fun _ => some (some (.int 1), true, true)) := by rfl
set_option maxRecDepth 100000 in
theorem zv_k12_4 : (fun xs : Nat → Int32 => (zz_run zp_P zt_tf zt_fd (zt_X 6 (fun q => if q = 1 then nI 4 else xs q)) 3000 1000 zm_law 33 zv_L [.int (nI 12)] zv_h).map zv_ob) = (fun _ => some (some (.int 1), true, true)) := by rfl
set_option maxRecDepth 100000 in
theorem zv_k12_5 : (fun xs : Nat → Int32 => (zz_run zp_P zt_tf zt_fd (zt_X 6 (fun q => if q = 1 then nI 5 else xs q)) 3000 1000 zm_law 33 zv_L [.int (nI 12)] zv_h).map zv_ob) = (fun _ => some (some (.int 1), true, true)) := by rfl
set_option maxRecDepth 100000 in
theorem zv_k12_6 : (fun xs : Nat → Int32 => (zz_run zp_P zt_tf zt_fd (zt_X 6 (fun q => if q = 1 then nI 6 else xs q)) 3000 1000 zm_law 33 zv_L [.int (nI 12)] zv_h).map zv_ob) = (fun _ => some (some (.int 1), true, true)) := by rfl
set_option maxRecDepth 100000 in
theorem zv_k12_7 : (fun xs : Nat → Int32 => (zz_run zp_P zt_tf zt_fd (zt_X 6 (fun q => if q = 1 then nI 7 else xs q)) 3000 1000 zm_law 33 zv_L [.int (nI 12)] zv_h).map zv_ob) = (fun _ => some (some (.int 1), true, true)) := by rfl
set_option maxRecDepth 100000 in
theorem zv_k13_0 : (fun xs : Nat → Int32 => (zz_run zp_P zt_tf zt_fd (zt_X 6 (fun q => if q = 1 then nI 0 else xs q)) 3000 1000 zm_law 33 zv_L [.int (nI 13)] zv_h).map zv_ob) = (fun _ => some (some (.int 1), true, true)) := by rfl
set_option maxRecDepth 100000 in
theorem zv_k13_1 : (fun xs : Nat → Int32 => (zz_run zp_P zt_tf zt_fd (zt_X 6 (fun q => if q = 1 then nI 1 else xs q)) 3000 1000 zm_law 33 zv_L [.int (nI 13)] zv_h).map zv_ob) = (fun _ => some (some (.int 1), true, true)) := by rfl
set_option maxRecDepth 100000 in
theorem zv_k13_2 : (fun xs : Nat → Int32 => (zz_run zp_P zt_tf zt_fd (zt_X 6 (fun q => if q = 1 then nI 2 else xs q)) 3000 1000 zm_law 33 zv_L [.int (nI 13)] zv_h).map zv_ob) = (fun _ => some (some (.int 1), true, true)) := by rfl
set_option maxRecDepth 100000 in
theorem zv_k13_3 : (fun xs : Nat → Int32 => (zz_run zp_P zt_tf zt_fd (zt_X 6 (fun q => if q = 1 then nI 3 else xs q)) 3000 1000 zm_law 33 zv_L [.int (nI 13)] zv_h).map zv_ob) = (fun _ => some (some (.int 1), true, true)) := by rfl
set_option maxRecDepth 100000 in
theorem zv_k13_4 : (fun xs : Nat → Int32 => (zz_run zp_P zt_tf zt_fd (zt_X 6 (fun q => if q = 1 then nI 4 else xs q)) 3000 1000 zm_law 33 zv_L [.int (nI 13)] zv_h).map zv_ob) = (fun _ => some (some (.int 1), true, true)) := by rfl
set_option maxRecDepth 100000 in
theorem zv_k13_5 : (fun xs : Nat → Int32 => (zz_run zp_P zt_tf zt_fd (zt_X 6 (fun q => if q = 1 then nI 5 else xs q)) 3000 1000 zm_law 33 zv_L [.int (nI 13)] zv_h).map zv_ob) = (fun _ => some (some (.int 1), true, true)) := by rfl
set_option maxRecDepth 100000 in
theorem zv_k13_6 : (fun xs : Nat → Int32 => (zz_run zp_P zt_tf zt_fd (zt_X 6 (fun q => if q = 1 then nI 6 else xs q)) 3000 1000 zm_law 33 zv_L [.int (nI 13)] zv_h).map zv_ob) = (fun _ => some (some (.int 1), true, true)) := by rfl
set_option maxRecDepth 100000 in
theorem zv_k13_7 : (fun xs : Nat → Int32 => (zz_run zp_P zt_tf zt_fd (zt_X 6 (fun q => if q = 1 then nI 7 else xs q)) 3000 1000 zm_law 33 zv_L [.int (nI 13)] zv_h).map zv_ob) = (fun _ => some (some (.int 1), true, true)) := by rfl
set_option maxRecDepth 100000 in
theorem zv_k14_0 : (fun xs : Nat → Int32 => (zz_run zp_P zt_tf zt_fd (zt_X 6 (fun q => if q = 1 then nI 0 else xs q)) 3000 1000 zm_law 33 zv_L [.int (nI 14)] zv_h).map zv_ob) = (fun _ => some (some (.int 1), true, true)) := by rfl
set_option maxRecDepth 100000 in
theorem zv_k14_1 : (fun xs : Nat → Int32 => (zz_run zp_P zt_tf zt_fd (zt_X 6 (fun q => if q = 1 then nI 1 else xs q)) 3000 1000 zm_law 33 zv_L [.int (nI 14)] zv_h).map zv_ob) = (fun _ => some (some (.int 1), true, true)) := by rfl
set_option maxRecDepth 100000 in
theorem zv_k14_2 : (fun xs : Nat → Int32 => (zz_run zp_P zt_tf zt_fd (zt_X 6 (fun q => if q = 1 then nI 2 else xs q)) 3000 1000 zm_law 33 zv_L [.int (nI 14)] zv_h).map zv_ob) = (fun _ => some (some (.int 1), true, true)) := by rfl
set_option maxRecDepth 100000 in
theorem zv_k14_3 : (fun xs : Nat → Int32 => (zz_run zp_P zt_tf zt_fd (zt_X 6 (fun q => if q = 1 then nI 3 else xs q)) 3000 1000 zm_law 33 zv_L [.int (nI 14)] zv_h).map zv_ob) = (fun _ => some (some (.int 1), true, true)) := by rfl
set_option maxRecDepth 100000 in
theorem zv_k14_4 : (fun xs : Nat → Int32 => (zz_run zp_P zt_tf zt_fd (zt_X 6 (fun q => if q = 1 then nI 4 else xs q)) 3000 1000 zm_law 33 zv_L [.int (nI 14)] zv_h).map zv_ob) = (fun _ => some (some (.int 1), true, true)) := by rfl
set_option maxRecDepth 100000 in
theorem zv_k14_5 : (fun xs : Nat → Int32 => (zz_run zp_P zt_tf zt_fd (zt_X 6 (fun q => if q = 1 then nI 5 else xs q)) 3000 1000 zm_law 33 zv_L [.int (nI 14)] zv_h).map zv_ob) = (fun _ => some (some (.int 1), true, true)) := by rfl
set_option maxRecDepth 100000 in
theorem zv_k14_6 : (fun xs : Nat → Int32 => (zz_run zp_P zt_tf zt_fd (zt_X 6 (fun q => if q = 1 then nI 6 else xs q)) 3000 1000 zm_law 33 zv_L [.int (nI 14)] zv_h).map zv_ob) = (fun _ => some (some (.int 1), true, true)) := by rfl
set_option maxRecDepth 100000 in
theorem zv_k14_7 : (fun xs : Nat → Int32 => (zz_run zp_P zt_tf zt_fd (zt_X 6 (fun q => if q = 1 then nI 7 else xs q)) 3000 1000 zm_law 33 zv_L [.int (nI 14)] zv_h).map zv_ob) = (fun _ => some (some (.int 1), true, true)) := by rfl
set_option maxRecDepth 100000 in
theorem zv_k15_0_0 : (fun xs : Nat → Int32 => (zz_run zp_P zt_tf zt_fd (zt_X 6 (fun q => if q = 1 then nI 0 else if q = 2 then nI 0 else xs q)) 3000 1000 zm_law 33 zv_L [.int (nI 15)] zv_h).map zv_ob) = (fun _ => some (some (.int 1), true, true)) := by rfl
set_option maxRecDepth 100000 in
theorem zv_k15_0_1 : (fun xs : Nat → Int32 => (zz_run zp_P zt_tf zt_fd (zt_X 6 (fun q => if q = 1 then nI 0 else if q = 2 then nI 1 else xs q)) 3000 1000 zm_law 33 zv_L [.int (nI 15)] zv_h).map zv_ob) = (fun _ => some (some (.int 1), true, true)) := by rfl
set_option maxRecDepth 100000 in
theorem zv_k15_0_2 : (fun xs : Nat → Int32 => (zz_run zp_P zt_tf zt_fd (zt_X 6 (fun q => if q = 1 then nI 0 else if q = 2 then nI 2 else xs q)) 3000 1000 zm_law 33 zv_L [.int (nI 15)] zv_h).map zv_ob) = (fun _ => some (some (.int 1), true, true)) := by rfl
set_option maxRecDepth 100000 in
theorem zv_k15_0_3 : (fun xs : Nat → Int32 => (zz_run zp_P zt_tf zt_fd (zt_X 6 (fun q => if q = 1 then nI 0 else if q = 2 then nI 3 else xs q)) 3000 1000 zm_law 33 zv_L [.int (nI 15)] zv_h).map zv_ob) = (fun _ => some (some (.int 1), true, true)) := by rfl
set_option maxRecDepth 100000 in
theorem zv_k15_0_4 : (fun xs : Nat → Int32 => (zz_run zp_P zt_tf zt_fd (zt_X 6 (fun q => if q = 1 then nI 0 else if q = 2 then nI 4 else xs q)) 3000 1000 zm_law 33 zv_L [.int (nI 15)] zv_h).map zv_ob) = (fun _ => some (some (.int 1), true, true)) := by rfl
set_option maxRecDepth 100000 in
theorem zv_k15_0_5 : (fun xs : Nat → Int32 => (zz_run zp_P zt_tf zt_fd (zt_X 6 (fun q => if q = 1 then nI 0 else if q = 2 then nI 5 else xs q)) 3000 1000 zm_law 33 zv_L [.int (nI 15)] zv_h).map zv_ob) = (fun _ => some (some (.int 1), true, true)) := by rfl
set_option maxRecDepth 100000 in
theorem zv_k15_0_6 : (fun xs : Nat → Int32 => (zz_run zp_P zt_tf zt_fd (zt_X 6 (fun q => if q = 1 then nI 0 else if q = 2 then nI 6 else xs q)) 3000 1000 zm_law 33 zv_L [.int (nI 15)] zv_h).map zv_ob) = (fun _ => some (some (.int 1), true, true)) := by rfl
set_option maxRecDepth 100000 in
theorem zv_k15_0_7 : (fun xs : Nat → Int32 => (zz_run zp_P zt_tf zt_fd (zt_X 6 (fun q => if q = 1 then nI 0 else if q = 2 then nI 7 else xs q)) 3000 1000 zm_law 33 zv_L [.int (nI 15)] zv_h).map zv_ob) = (fun _ => some (some (.int 1), true, true)) := by rfl
set_option maxRecDepth 100000 in
theorem zv_k15_1_0 : (fun xs : Nat → Int32 => (zz_run zp_P zt_tf zt_fd (zt_X 6 (fun q => if q = 1 then nI 1 else if q = 2 then nI 0 else xs q)) 3000 1000 zm_law 33 zv_L [.int (nI 15)] zv_h).map zv_ob) = (fun _ => some (some (.int 1), true, true)) := by rfl
set_option maxRecDepth 100000 in
theorem zv_k15_1_1 : (fun xs : Nat → Int32 => (zz_run zp_P zt_tf zt_fd (zt_X 6 (fun q => if q = 1 then nI 1 else if q = 2 then nI 1 else xs q)) 3000 1000 zm_law 33 zv_L [.int (nI 15)] zv_h).map zv_ob) = (fun _ => some (some (.int 1), true, true)) := by rfl
set_option maxRecDepth 100000 in
theorem zv_k15_1_2 : (fun xs : Nat → Int32 => (zz_run zp_P zt_tf zt_fd (zt_X 6 (fun q => if q = 1 then nI 1 else if q = 2 then nI 2 else xs q)) 3000 1000 zm_law 33 zv_L [.int (nI 15)] zv_h).map zv_ob) = (fun _ => some (some (.int 1), true, true)) := by rfl
set_option maxRecDepth 100000 in
theorem zv_k15_1_3 : (fun xs : Nat → Int32 => (zz_run zp_P zt_tf zt_fd (zt_X 6 (fun q => if q = 1 then nI 1 else if q = 2 then nI 3 else xs q)) 3000 1000 zm_law 33 zv_L [.int (nI 15)] zv_h).map zv_ob) = (fun _ => some (some (.int 1), true, true)) := by rfl
set_option maxRecDepth 100000 in
theorem zv_k15_1_4 : (fun xs : Nat → Int32 => (zz_run zp_P zt_tf zt_fd (zt_X 6 (fun q => if q = 1 then nI 1 else if q = 2 then nI 4 else xs q)) 3000 1000 zm_law 33 zv_L [.int (nI 15)] zv_h).map zv_ob) = (fun _ => some (some (.int 1), true, true)) := by rfl
set_option maxRecDepth 100000 in
theorem zv_k15_1_5 : (fun xs : Nat → Int32 => (zz_run zp_P zt_tf zt_fd (zt_X 6 (fun q => if q = 1 then nI 1 else if q = 2 then nI 5 else xs q)) 3000 1000 zm_law 33 zv_L [.int (nI 15)] zv_h).map zv_ob) = (fun _ => some (some (.int 1), true, true)) := by rfl
set_option maxRecDepth 100000 in
theorem zv_k15_1_6 : (fun xs : Nat → Int32 => (zz_run zp_P zt_tf zt_fd (zt_X 6 (fun q => if q = 1 then nI 1 else if q = 2 then nI 6 else xs q)) 3000 1000 zm_law 33 zv_L [.int (nI 15)] zv_h).map zv_ob) = (fun _ => some (some (.int 1), true, true)) := by rfl
set_option maxRecDepth 100000 in
theorem zv_k15_1_7 : (fun xs : Nat → Int32 => (zz_run zp_P zt_tf zt_fd (zt_X 6 (fun q => if q = 1 then nI 1 else if q = 2 then nI 7 else xs q)) 3000 1000 zm_law 33 zv_L [.int (nI 15)] zv_h).map zv_ob) = (fun _ => some (some (.int 1), true, true)) := by rfl
set_option maxRecDepth 100000 in
theorem zv_k15_2_0 : (fun xs : Nat → Int32 => (zz_run zp_P zt_tf zt_fd (zt_X 6 (fun q => if q = 1 then nI 2 else if q = 2 then nI 0 else xs q)) 3000 1000 zm_law 33 zv_L [.int (nI 15)] zv_h).map zv_ob) = (fun _ => some (some (.int 1), true, true)) := by rfl
set_option maxRecDepth 100000 in
theorem zv_k15_2_1 : (fun xs : Nat → Int32 => (zz_run zp_P zt_tf zt_fd (zt_X 6 (fun q => if q = 1 then nI 2 else if q = 2 then nI 1 else xs q)) 3000 1000 zm_law 33 zv_L [.int (nI 15)] zv_h).map zv_ob) = (fun _ => some (some (.int 1), true, true)) := by rfl
set_option maxRecDepth 100000 in
theorem zv_k15_2_2 : (fun xs : Nat → Int32 => (zz_run zp_P zt_tf zt_fd (zt_X 6 (fun q => if q = 1 then nI 2 else if q = 2 then nI 2 else xs q)) 3000 1000 zm_law 33 zv_L [.int (nI 15)] zv_h).map zv_ob) = (fun _ => some (some (.int 1), true, true)) := by rfl
set_option maxRecDepth 100000 in
theorem zv_k15_2_3 : (fun xs : Nat → Int32 => (zz_run zp_P zt_tf zt_fd (zt_X 6 (fun q => if q = 1 then nI 2 else if q = 2 then nI 3 else xs q)) 3000 1000 zm_law 33 zv_L [.int (nI 15)] zv_h).map zv_ob) = (fun _ => some (some (.int 1), true, true)) := by rfl
set_option maxRecDepth 100000 in
theorem zv_k15_2_4 : (fun xs : Nat → Int32 => (zz_run zp_P zt_tf zt_fd (zt_X 6 (fun q => if q = 1 then nI 2 else if q = 2 then nI 4 else xs q)) 3000 1000 zm_law 33 zv_L [.int (nI 15)] zv_h).map zv_ob) = (fun _ => some (some (.int 1), true, true)) := by rfl
set_option maxRecDepth 100000 in
theorem zv_k15_2_5 : (fun xs : Nat → Int32 => (zz_run zp_P zt_tf zt_fd (zt_X 6 (fun q => if q = 1 then nI 2 else if q = 2 then nI 5 else xs q)) 3000 1000 zm_law 33 zv_L [.int (nI 15)] zv_h).map zv_ob) = (fun _ => some (some (.int 1), true, true)) := by rfl
set_option maxRecDepth 100000 in
theorem zv_k15_2_6 : (fun xs : Nat → Int32 => (zz_run zp_P zt_tf zt_fd (zt_X 6 (fun q => if q = 1 then nI 2 else if q = 2 then nI 6 else xs q)) 3000 1000 zm_law 33 zv_L [.int (nI 15)] zv_h).map zv_ob) = (fun _ => some (some (.int 1), true, true)) := by rfl
set_option maxRecDepth 100000 in
theorem zv_k15_2_7 : (fun xs : Nat → Int32 => (zz_run zp_P zt_tf zt_fd (zt_X 6 (fun q => if q = 1 then nI 2 else if q = 2 then nI 7 else xs q)) 3000 1000 zm_law 33 zv_L [.int (nI 15)] zv_h).map zv_ob) = (fun _ => some (some (.int 1), true, true)) := by rfl
set_option maxRecDepth 100000 in
theorem zv_k15_3_0 : (fun xs : Nat → Int32 => (zz_run zp_P zt_tf zt_fd (zt_X 6 (fun q => if q = 1 then nI 3 else if q = 2 then nI 0 else xs q)) 3000 1000 zm_law 33 zv_L [.int (nI 15)] zv_h).map zv_ob) = (fun _ => some (some (.int 1), true, true)) := by rfl
set_option maxRecDepth 100000 in
theorem zv_k15_3_1 : (fun xs : Nat → Int32 => (zz_run zp_P zt_tf zt_fd (zt_X 6 (fun q => if q = 1 then nI 3 else if q = 2 then nI 1 else xs q)) 3000 1000 zm_law 33 zv_L [.int (nI 15)] zv_h).map zv_ob) = (fun _ => some (some (.int 1), true, true)) := by rfl
set_option maxRecDepth 100000 in
theorem zv_k15_3_2 : (fun xs : Nat → Int32 => (zz_run zp_P zt_tf zt_fd (zt_X 6 (fun q => if q = 1 then nI 3 else if q = 2 then nI 2 else xs q)) 3000 1000 zm_law 33 zv_L [.int (nI 15)] zv_h).map zv_ob) = (fun _ => some (some (.int 1), true, true)) := by rfl
set_option maxRecDepth 100000 in
theorem zv_k15_3_3 : (fun xs : Nat → Int32 => (zz_run zp_P zt_tf zt_fd (zt_X 6 (fun q => if q = 1 then nI 3 else if q = 2 then nI 3 else xs q)) 3000 1000 zm_law 33 zv_L [.int (nI 15)] zv_h).map zv_ob) = (fun _ => some (some (.int 1), true, true)) := by rfl
set_option maxRecDepth 100000 in
theorem zv_k15_3_4 : (fun xs : Nat → Int32 => (zz_run zp_P zt_tf zt_fd (zt_X 6 (fun q => if q = 1 then nI 3 else if q = 2 then nI 4 else xs q)) 3000 1000 zm_law 33 zv_L [.int (nI 15)] zv_h).map zv_ob) = (fun _ => some (some (.int 1), true, true)) := by rfl
set_option maxRecDepth 100000 in
theorem zv_k15_3_5 : (fun xs : Nat → Int32 => (zz_run zp_P zt_tf zt_fd (zt_X 6 (fun q => if q = 1 then nI 3 else if q = 2 then nI 5 else xs q)) 3000 1000 zm_law 33 zv_L [.int (nI 15)] zv_h).map zv_ob) = (fun _ => some (some (.int 1), true, true)) := by rfl
set_option maxRecDepth 100000 in
theorem zv_k15_3_6 : (fun xs : Nat → Int32 => (zz_run zp_P zt_tf zt_fd (zt_X 6 (fun q => if q = 1 then nI 3 else if q = 2 then nI 6 else xs q)) 3000 1000 zm_law 33 zv_L [.int (nI 15)] zv_h).map zv_ob) = (fun _ => some (some (.int 1), true, true)) := by rfl
set_option maxRecDepth 100000 in
theorem zv_k15_3_7 : (fun xs : Nat → Int32 => (zz_run zp_P zt_tf zt_fd (zt_X 6 (fun q => if q = 1 then nI 3 else if q = 2 then nI 7 else xs q)) 3000 1000 zm_law 33 zv_L [.int (nI 15)] zv_h).map zv_ob) = (fun _ => some (some (.int 1), true, true)) := by rfl
set_option maxRecDepth 100000 in
theorem zv_k15_4_0 : (fun xs : Nat → Int32 => (zz_run zp_P zt_tf zt_fd (zt_X 6 (fun q => if q = 1 then nI 4 else if q = 2 then nI 0 else xs q)) 3000 1000 zm_law 33 zv_L [.int (nI 15)] zv_h).map zv_ob) = (fun _ => some (some (.int 1), true, true)) := by rfl
set_option maxRecDepth 100000 in
theorem zv_k15_4_1 : (fun xs : Nat → Int32 => (zz_run zp_P zt_tf zt_fd (zt_X 6 (fun q => if q = 1 then nI 4 else if q = 2 then nI 1 else xs q)) 3000 1000 zm_law 33 zv_L [.int (nI 15)] zv_h).map zv_ob) = (fun _ => some (some (.int 1), true, true)) := by rfl
set_option maxRecDepth 100000 in
theorem zv_k15_4_2 : (fun xs : Nat → Int32 => (zz_run zp_P zt_tf zt_fd (zt_X 6 (fun q => if q = 1 then nI 4 else if q = 2 then nI 2 else xs q)) 3000 1000 zm_law 33 zv_L [.int (nI 15)] zv_h).map zv_ob) = (fun _ => some (some (.int 1), true, true)) := by rfl
set_option maxRecDepth 100000 in
theorem zv_k15_4_3 : (fun xs : Nat → Int32 => (zz_run zp_P zt_tf zt_fd (zt_X 6 (fun q => if q = 1 then nI 4 else if q = 2 then nI 3 else xs q)) 3000 1000 zm_law 33 zv_L [.int (nI 15)] zv_h).map zv_ob) = (fun _ => some (some (.int 1), true, true)) := by rfl
set_option maxRecDepth 100000 in
theorem zv_k15_4_4 : (fun xs : Nat → Int32 => (zz_run zp_P zt_tf zt_fd (zt_X 6 (fun q => if q = 1 then nI 4 else if q = 2 then nI 4 else xs q)) 3000 1000 zm_law 33 zv_L [.int (nI 15)] zv_h).map zv_ob) = (fun _ => some (some (.int 1), true, true)) := by rfl
set_option maxRecDepth 100000 in
theorem zv_k15_4_5 : (fun xs : Nat → Int32 => (zz_run zp_P zt_tf zt_fd (zt_X 6 (fun q => if q = 1 then nI 4 else if q = 2 then nI 5 else xs q)) 3000 1000 zm_law 33 zv_L [.int (nI 15)] zv_h).map zv_ob) = (fun _ => some (some (.int 1), true, true)) := by rfl
set_option maxRecDepth 100000 in
theorem zv_k15_4_6 : (fun xs : Nat → Int32 => (zz_run zp_P zt_tf zt_fd (zt_X 6 (fun q => if q = 1 then nI 4 else if q = 2 then nI 6 else xs q)) 3000 1000 zm_law 33 zv_L [.int (nI 15)] zv_h).map zv_ob) = (fun _ => some (some (.int 1), true, true)) := by rfl
set_option maxRecDepth 100000 in
theorem zv_k15_4_7 : (fun xs : Nat → Int32 => (zz_run zp_P zt_tf zt_fd (zt_X 6 (fun q => if q = 1 then nI 4 else if q = 2 then nI 7 else xs q)) 3000 1000 zm_law 33 zv_L [.int (nI 15)] zv_h).map zv_ob) = (fun _ => some (some (.int 1), true, true)) := by rfl
set_option maxRecDepth 100000 in
theorem zv_k15_5_0 : (fun xs : Nat → Int32 => (zz_run zp_P zt_tf zt_fd (zt_X 6 (fun q => if q = 1 then nI 5 else if q = 2 then nI 0 else xs q)) 3000 1000 zm_law 33 zv_L [.int (nI 15)] zv_h).map zv_ob) = (fun _ => some (some (.int 1), true, true)) := by rfl
set_option maxRecDepth 100000 in
theorem zv_k15_5_1 : (fun xs : Nat → Int32 => (zz_run zp_P zt_tf zt_fd (zt_X 6 (fun q => if q = 1 then nI 5 else if q = 2 then nI 1 else xs q)) 3000 1000 zm_law 33 zv_L [.int (nI 15)] zv_h).map zv_ob) = (fun _ => some (some (.int 1), true, true)) := by rfl
set_option maxRecDepth 100000 in
theorem zv_k15_5_2 : (fun xs : Nat → Int32 => (zz_run zp_P zt_tf zt_fd (zt_X 6 (fun q => if q = 1 then nI 5 else if q = 2 then nI 2 else xs q)) 3000 1000 zm_law 33 zv_L [.int (nI 15)] zv_h).map zv_ob) = (fun _ => some (some (.int 1), true, true)) := by rfl
set_option maxRecDepth 100000 in
theorem zv_k15_5_3 : (fun xs : Nat → Int32 => (zz_run zp_P zt_tf zt_fd (zt_X 6 (fun q => if q = 1 then nI 5 else if q = 2 then nI 3 else xs q)) 3000 1000 zm_law 33 zv_L [.int (nI 15)] zv_h).map zv_ob) = (fun _ => some (some (.int 1), true, true)) := by rfl
set_option maxRecDepth 100000 in
theorem zv_k15_5_4 : (fun xs : Nat → Int32 => (zz_run zp_P zt_tf zt_fd (zt_X 6 (fun q => if q = 1 then nI 5 else if q = 2 then nI 4 else xs q)) 3000 1000 zm_law 33 zv_L [.int (nI 15)] zv_h).map zv_ob) = (fun _ => some (some (.int 1), true, true)) := by rfl
set_option maxRecDepth 100000 in
theorem zv_k15_5_5 : (fun xs : Nat → Int32 => (zz_run zp_P zt_tf zt_fd (zt_X 6 (fun q => if q = 1 then nI 5 else if q = 2 then nI 5 else xs q)) 3000 1000 zm_law 33 zv_L [.int (nI 15)] zv_h).map zv_ob) = (fun _ => some (some (.int 1), true, true)) := by rfl
set_option maxRecDepth 100000 in
theorem zv_k15_5_6 : (fun xs : Nat → Int32 => (zz_run zp_P zt_tf zt_fd (zt_X 6 (fun q => if q = 1 then nI 5 else if q = 2 then nI 6 else xs q)) 3000 1000 zm_law 33 zv_L [.int (nI 15)] zv_h).map zv_ob) = (fun _ => some (some (.int 1), true, true)) := by rfl
set_option maxRecDepth 100000 in
theorem zv_k15_5_7 : (fun xs : Nat → Int32 => (zz_run zp_P zt_tf zt_fd (zt_X 6 (fun q => if q = 1 then nI 5 else if q = 2 then nI 7 else xs q)) 3000 1000 zm_law 33 zv_L [.int (nI 15)] zv_h).map zv_ob) = (fun _ => some (some (.int 1), true, true)) := by rfl
set_option maxRecDepth 100000 in
theorem zv_k15_6_0 : (fun xs : Nat → Int32 => (zz_run zp_P zt_tf zt_fd (zt_X 6 (fun q => if q = 1 then nI 6 else if q = 2 then nI 0 else xs q)) 3000 1000 zm_law 33 zv_L [.int (nI 15)] zv_h).map zv_ob) = (fun _ => some (some (.int 1), true, true)) := by rfl
set_option maxRecDepth 100000 in
theorem zv_k15_6_1 : (fun xs : Nat → Int32 => (zz_run zp_P zt_tf zt_fd (zt_X 6 (fun q => if q = 1 then nI 6 else if q = 2 then nI 1 else xs q)) 3000 1000 zm_law 33 zv_L [.int (nI 15)] zv_h).map zv_ob) = (fun _ => some (some (.int 1), true, true)) := by rfl
set_option maxRecDepth 100000 in
theorem zv_k15_6_2 : (fun xs : Nat → Int32 => (zz_run zp_P zt_tf zt_fd (zt_X 6 (fun q => if q = 1 then nI 6 else if q = 2 then nI 2 else xs q)) 3000 1000 zm_law 33 zv_L [.int (nI 15)] zv_h).map zv_ob) = (fun _ => some (some (.int 1), true, true)) := by rfl
set_option maxRecDepth 100000 in
theorem zv_k15_6_3 : (fun xs : Nat → Int32 => (zz_run zp_P zt_tf zt_fd (zt_X 6 (fun q => if q = 1 then nI 6 else if q = 2 then nI 3 else xs q)) 3000 1000 zm_law 33 zv_L [.int (nI 15)] zv_h).map zv_ob) = (fun _ => some (some (.int 1), true, true)) := by rfl
set_option maxRecDepth 100000 in
theorem zv_k15_6_4 : (fun xs : Nat → Int32 => (zz_run zp_P zt_tf zt_fd (zt_X 6 (fun q => if q = 1 then nI 6 else if q = 2 then nI 4 else xs q)) 3000 1000 zm_law 33 zv_L [.int (nI 15)] zv_h).map zv_ob) = (fun _ => some (some (.int 1), true, true)) := by rfl
set_option maxRecDepth 100000 in
theorem zv_k15_6_5 : (fun xs : Nat → Int32 => (zz_run zp_P zt_tf zt_fd (zt_X 6 (fun q => if q = 1 then nI 6 else if q = 2 then nI 5 else xs q)) 3000 1000 zm_law 33 zv_L [.int (nI 15)] zv_h).map zv_ob) = (fun _ => some (some (.int 1), true, true)) := by rfl
set_option maxRecDepth 100000 in
theorem zv_k15_6_6 : (fun xs : Nat → Int32 => (zz_run zp_P zt_tf zt_fd (zt_X 6 (fun q => if q = 1 then nI 6 else if q = 2 then nI 6 else xs q)) 3000 1000 zm_law 33 zv_L [.int (nI 15)] zv_h).map zv_ob) = (fun _ => some (some (.int 1), true, true)) := by rfl
set_option maxRecDepth 100000 in
theorem zv_k15_6_7 : (fun xs : Nat → Int32 => (zz_run zp_P zt_tf zt_fd (zt_X 6 (fun q => if q = 1 then nI 6 else if q = 2 then nI 7 else xs q)) 3000 1000 zm_law 33 zv_L [.int (nI 15)] zv_h).map zv_ob) = (fun _ => some (some (.int 1), true, true)) := by rfl
set_option maxRecDepth 100000 in
theorem zv_k15_7_0 : (fun xs : Nat → Int32 => (zz_run zp_P zt_tf zt_fd (zt_X 6 (fun q => if q = 1 then nI 7 else if q = 2 then nI 0 else xs q)) 3000 1000 zm_law 33 zv_L [.int (nI 15)] zv_h).map zv_ob) = (fun _ => some (some (.int 1), true, true)) := by rfl
set_option maxRecDepth 100000 in
theorem zv_k15_7_1 : (fun xs : Nat → Int32 => (zz_run zp_P zt_tf zt_fd (zt_X 6 (fun q => if q = 1 then nI 7 else if q = 2 then nI 1 else xs q)) 3000 1000 zm_law 33 zv_L [.int (nI 15)] zv_h).map zv_ob) = (fun _ => some (some (.int 1), true, true)) := by rfl
set_option maxRecDepth 100000 in
theorem zv_k15_7_2 : (fun xs : Nat → Int32 => (zz_run zp_P zt_tf zt_fd (zt_X 6 (fun q => if q = 1 then nI 7 else if q = 2 then nI 2 else xs q)) 3000 1000 zm_law 33 zv_L [.int (nI 15)] zv_h).map zv_ob) = (fun _ => some (some (.int 1), true, true)) := by rfl
set_option maxRecDepth 100000 in
theorem zv_k15_7_3 : (fun xs : Nat → Int32 => (zz_run zp_P zt_tf zt_fd (zt_X 6 (fun q => if q = 1 then nI 7 else if q = 2 then nI 3 else xs q)) 3000 1000 zm_law 33 zv_L [.int (nI 15)] zv_h).map zv_ob) = (fun _ => some (some (.int 1), true, true)) := by rfl
set_option maxRecDepth 100000 in
theorem zv_k15_7_4 : (fun xs : Nat → Int32 => (zz_run zp_P zt_tf zt_fd (zt_X 6 (fun q => if q = 1 then nI 7 else if q = 2 then nI 4 else xs q)) 3000 1000 zm_law 33 zv_L [.int (nI 15)] zv_h).map zv_ob) = (fun _ => some (some (.int 1), true, true)) := by rfl
set_option maxRecDepth 100000 in
theorem zv_k15_7_5 : (fun xs : Nat → Int32 => (zz_run zp_P zt_tf zt_fd (zt_X 6 (fun q => if q = 1 then nI 7 else if q = 2 then nI 5 else xs q)) 3000 1000 zm_law 33 zv_L [.int (nI 15)] zv_h).map zv_ob) = (fun _ => some (some (.int 1), true, true)) := by rfl
set_option maxRecDepth 100000 in
theorem zv_k15_7_6 : (fun xs : Nat → Int32 => (zz_run zp_P zt_tf zt_fd (zt_X 6 (fun q => if q = 1 then nI 7 else if q = 2 then nI 6 else xs q)) 3000 1000 zm_law 33 zv_L [.int (nI 15)] zv_h).map zv_ob) = (fun _ => some (some (.int 1), true, true)) := by rfl
set_option maxRecDepth 100000 in
theorem zv_k15_7_7 : (fun xs : Nat → Int32 => (zz_run zp_P zt_tf zt_fd (zt_X 6 (fun q => if q = 1 then nI 7 else if q = 2 then nI 7 else xs q)) 3000 1000 zm_law 33 zv_L [.int (nI 15)] zv_h).map zv_ob) = (fun _ => some (some (.int 1), true, true)) := by rfl
set_option maxRecDepth 100000 in
theorem zv_k1_0 : (fun xs : Nat → Int32 => (zz_run zp_P zt_tf zt_fd (zt_X 6 (fun q => if q = 1 then nI 0 else xs q)) 3000 1000 zm_law 33 zv_L [.int (nI 1)] zv_h).map zv_ob) = (fun _ => some (some (.int 1), true, true)) := by rfl
set_option maxRecDepth 100000 in
theorem zv_k2_0 : (fun xs : Nat → Int32 => (zz_run zp_P zt_tf zt_fd (zt_X 6 (fun q => if q = 1 then nI 0 else xs q)) 3000 1000 zm_law 33 zv_L [.int (nI 2)] zv_h).map zv_ob) = (fun _ => some (some (.int 1), true, true)) := by rfl
set_option maxRecDepth 100000 in
theorem zv_k2_1 : (fun xs : Nat → Int32 => (zz_run zp_P zt_tf zt_fd (zt_X 6 (fun q => if q = 1 then nI 1 else xs q)) 3000 1000 zm_law 33 zv_L [.int (nI 2)] zv_h).map zv_ob) = (fun _ => some (some (.int 1), true, true)) := by rfl
