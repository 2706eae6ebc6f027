/-! ===== each method's rows are the code's, and the tables have their words (printed by program) ===== -/
set_option maxRecDepth 100000 in
theorem zd_law : ∀ r ∈ zm_law.2, decode zm_law.1.2.1 r.1 = .ok (r.2.1, r.2.2.1) := by decide +kernel
set_option maxRecDepth 100000 in
theorem zq_law : (zm_law.2.flatMap (zz_wr zt_hh zp_P zt_cl zm_law.1.1.cls)).map some = ([243, 244, 216, 246, 245, 1744, 1745, 227, 1747, 1746, 588, 589, 587, 2064, 2065, 2063, 613, 614, 612, 2072, 2073, 2071, 1052, 1053, 1051, 2241, 2242, 2240, 1056, 1057, 1055, 2245, 2246, 2244, 1061, 1062, 1060, 2249, 2250, 2248, 1631, 1632, 1630, 2516, 2517, 2515, 1639, 1640, 1638, 2520, 2521, 2519, 1647, 1648, 1646, 2524, 2525, 2523, 1655, 1656, 1654, 2528, 2529, 2527, 1668, 1669, 1667, 2535, 2536, 2534, 1676, 1677, 1675, 2539, 2540, 2538, 1685, 1686, 1684, 2543, 2544, 2542, 1693, 1694, 1692, 2547, 2548, 2546, 1697, 1698, 1696, 2551, 2552, 2550, 1704, 1705, 1703, 2556, 2557, 2555, 1710, 1711, 1709, 2560, 2561, 2559, 1718, 1719, 1717, 2564, 2565, 2563, 1731, 1732, 1730, 2568, 2569, 2567, 1735, 1736, 1734, 2572, 2573, 2571] : List Nat).map (fun i => lw_tbl[i]?) := by rfl
set_option maxRecDepth 100000 in
theorem zg_law : (zm_law.2.flatMap (zz_wr zt_hh zp_P zt_cl zm_law.1.1.cls)).all goodWord = true := by decide +kernel
set_option maxRecDepth 100000 in
theorem zr_law : (zm_law.2.flatMap (zz_wn zp_P zm_law.1.1.cls)).map some = ([] : List Nat).map (fun i => lw_tbl[i]?) := by rfl
set_option maxRecDepth 100000 in
theorem zs_law : (zm_law.2.flatMap (zz_wn zp_P zm_law.1.1.cls)).all zz_isN = true := by decide +kernel
set_option maxRecDepth 100000 in
theorem zb_law : zm_law.2.all (fun r => zz_wb zt_hh zp_P zt_cl zt_tf zt_fd zt_nf zm_law.1.1.cls zm_law.1.1.name r) = true := by decide +kernel
theorem zo_law : zz_okW zt_hh zp_P zt_cl zt_tf zt_fd zt_nf zt_T zt_N zm_law := zz_w_okW zd_law zb_law (zz_places goodWord zq_law zg_law) (zz_places zz_isN zr_law zs_law)
set_option maxRecDepth 100000 in
theorem zd_0 : ∀ r ∈ zm_0.2, decode zm_0.1.2.1 r.1 = .ok (r.2.1, r.2.2.1) := by decide +kernel
set_option maxRecDepth 100000 in
theorem zq_0 : (zz_cw zt_hh zm_0 :: Cond.initialized zm_0.1.1.cls :: zm_0.2.flatMap (zz_wr zt_hh zp_P zt_cl zm_0.1.1.cls)).map some = ([247, 216, 248, 249, 250, 288, 544, 251, 252, 217, 254, 546, 328, 329, 219, 331, 547, 328, 329, 219, 331, 548, 549, 550, 365, 366, 220, 368, 551, 365, 552, 384, 385, 221, 387, 554, 403, 404, 222, 406, 555, 419, 420, 223, 422, 556, 453, 454, 224, 554, 555, 556, 456, 455, 557] : List Nat).map (fun i => lw_tbl[i]?) := by rfl
set_option maxRecDepth 100000 in
theorem zg_0 : (zz_cw zt_hh zm_0 :: Cond.initialized zm_0.1.1.cls :: zm_0.2.flatMap (zz_wr zt_hh zp_P zt_cl zm_0.1.1.cls)).all goodWord = true := by decide +kernel
set_option maxRecDepth 100000 in
theorem zr_0 : (zm_0.2.flatMap (zz_wn zp_P zm_0.1.1.cls)).map some = ([253, 330, 330, 367, 383, 386, 405, 421] : List Nat).map (fun i => lw_tbl[i]?) := by rfl
set_option maxRecDepth 100000 in
theorem zs_0 : (zm_0.2.flatMap (zz_wn zp_P zm_0.1.1.cls)).all zz_isN = true := by decide +kernel
set_option maxRecDepth 100000 in
theorem zb_0 : (zm_0.2.all (fun r => zz_wb zt_hh zp_P zt_cl zt_tf zt_fd zt_nf zm_0.1.1.cls zm_0.1.1.name r) && (plainName zm_0.1.1.cls && (decide (zm_0.1.1.cls ≠ "java/lang/invoke/MethodHandle" ∧ zm_0.1.1.cls ≠ "java/lang/invoke/VarHandle") && decide (zm_0.1.2.2.1 ≤ 40)))) = true := by decide +kernel
theorem zo_0 : zz_okM zt_hh zp_P zt_cl zt_tf zt_fd zt_nf zt_T zt_N zm_0 := zz_w_okM zd_0 zb_0 (zz_places goodWord zq_0 zg_0) (zz_places zz_isN zr_0 zs_0)
set_option maxRecDepth 100000 in
theorem zd_1 : ∀ r ∈ zm_1.2, decode zm_1.1.2.1 r.1 = .ok (r.2.1, r.2.2.1) := by decide +kernel
set_option maxRecDepth 100000 in
theorem zq_1 : (zz_cw zt_hh zm_1 :: Cond.initialized zm_1.1.1.cls :: zm_1.2.flatMap (zz_wr zt_hh zp_P zt_cl zm_1.1.1.cls)).map some = ([590, 216, 545, 545, 544, 544, 544, 592, 591, 544, 610, 0, 608, 610, 0, 608, 610, 0, 608, 610, 0, 608, 610, 0, 608, 545] : List Nat).map (fun i => lw_tbl[i]?) := by rfl
set_option maxRecDepth 100000 in
theorem zg_1 : (zz_cw zt_hh zm_1 :: Cond.initialized zm_1.1.1.cls :: zm_1.2.flatMap (zz_wr zt_hh zp_P zt_cl zm_1.1.1.cls)).all goodWord = true := by decide +kernel
set_option maxRecDepth 100000 in
theorem zr_1 : (zm_1.2.flatMap (zz_wn zp_P zm_1.1.1.cls)).map some = ([] : List Nat).map (fun i => lw_tbl[i]?) := by rfl
set_option maxRecDepth 100000 in
theorem zs_1 : (zm_1.2.flatMap (zz_wn zp_P zm_1.1.1.cls)).all zz_isN = true := by decide +kernel
set_option maxRecDepth 100000 in
theorem zb_1 : (zm_1.2.all (fun r => zz_wb zt_hh zp_P zt_cl zt_tf zt_fd zt_nf zm_1.1.1.cls zm_1.1.1.name r) && (plainName zm_1.1.1.cls && (decide (zm_1.1.1.cls ≠ "java/lang/invoke/MethodHandle" ∧ zm_1.1.1.cls ≠ "java/lang/invoke/VarHandle") && decide (zm_1.1.2.2.1 ≤ 40)))) = true := by decide +kernel
theorem zo_1 : zz_okM zt_hh zp_P zt_cl zt_tf zt_fd zt_nf zt_T zt_N zm_1 := zz_w_okM zd_1 zb_1 (zz_places goodWord zq_1 zg_1) (zz_places zz_isN zr_1 zs_1)
set_option maxRecDepth 100000 in
theorem zd_2 : ∀ r ∈ zm_2.2, decode zm_2.1.2.1 r.1 = .ok (r.2.1, r.2.2.1) := by decide +kernel
set_option maxRecDepth 100000 in
theorem zq_2 : (zz_cw zt_hh zm_2 :: Cond.initialized zm_2.1.1.cls :: zm_2.2.flatMap (zz_wr zt_hh zp_P zt_cl zm_2.1.1.cls)).map some = ([611, 216, 544, 545, 545, 545] : List Nat).map (fun i => lw_tbl[i]?) := by rfl
set_option maxRecDepth 100000 in
theorem zg_2 : (zz_cw zt_hh zm_2 :: Cond.initialized zm_2.1.1.cls :: zm_2.2.flatMap (zz_wr zt_hh zp_P zt_cl zm_2.1.1.cls)).all goodWord = true := by decide +kernel
set_option maxRecDepth 100000 in
theorem zr_2 : (zm_2.2.flatMap (zz_wn zp_P zm_2.1.1.cls)).map some = ([] : List Nat).map (fun i => lw_tbl[i]?) := by rfl
set_option maxRecDepth 100000 in
theorem zs_2 : (zm_2.2.flatMap (zz_wn zp_P zm_2.1.1.cls)).all zz_isN = true := by decide +kernel
set_option maxRecDepth 100000 in
theorem zb_2 : (zm_2.2.all (fun r => zz_wb zt_hh zp_P zt_cl zt_tf zt_fd zt_nf zm_2.1.1.cls zm_2.1.1.name r) && (plainName zm_2.1.1.cls && (decide (zm_2.1.1.cls ≠ "java/lang/invoke/MethodHandle" ∧ zm_2.1.1.cls ≠ "java/lang/invoke/VarHandle") && decide (zm_2.1.2.2.1 ≤ 40)))) = true := by decide +kernel
theorem zo_2 : zz_okM zt_hh zp_P zt_cl zt_tf zt_fd zt_nf zt_T zt_N zm_2 := zz_w_okM zd_2 zb_2 (zz_places goodWord zq_2 zg_2) (zz_places zz_isN zr_2 zs_2)
