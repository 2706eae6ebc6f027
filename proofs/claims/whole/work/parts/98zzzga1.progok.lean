/-! ===== each method's rows are the code's, and the tables have their words (printed by program) ===== -/
set_option maxRecDepth 100000 in
theorem zd_law_0 : ∀ r ∈ zl_law_0, decode zm_law.1.2.1 r.1 = .ok (r.2.1, r.2.2.1) := by decide +kernel
set_option maxRecDepth 100000 in
theorem zq_law_0 : (zl_law_0.flatMap (zz_wr zt_hh zp_P zt_cl zm_law.1.1.cls)).map some = ([243, 244, 216, 246, 245, 1744, 1745, 227, 1747, 1746] : List Nat).map (fun i => lw_tbl[i]?) := by rfl
set_option maxRecDepth 100000 in
theorem zg_law_0 : (zl_law_0.flatMap (zz_wr zt_hh zp_P zt_cl zm_law.1.1.cls)).all goodWord = true := by decide +kernel
set_option maxRecDepth 100000 in
theorem zr_law_0 : (zl_law_0.flatMap (zz_wn zp_P zm_law.1.1.cls)).map some = ([] : List Nat).map (fun i => lw_tbl[i]?) := by rfl
set_option maxRecDepth 100000 in
theorem zs_law_0 : (zl_law_0.flatMap (zz_wn zp_P zm_law.1.1.cls)).all zz_isN = true := by decide +kernel
set_option maxRecDepth 100000 in
theorem zb_law_0 : zl_law_0.all (fun r => zz_wb zt_hh zp_P zt_cl zt_tf zt_fd zt_nf zm_law.1.1.cls zm_law.1.1.name r) = true := by decide +kernel
set_option maxRecDepth 100000 in
theorem zd_law_1 : ∀ r ∈ zl_law_1, decode zm_law.1.2.1 r.1 = .ok (r.2.1, r.2.2.1) := by decide +kernel
set_option maxRecDepth 100000 in
theorem zq_law_1 : (zl_law_1.flatMap (zz_wr zt_hh zp_P zt_cl zm_law.1.1.cls)).map some = ([588, 589, 587, 2064, 2065, 2063] : List Nat).map (fun i => lw_tbl[i]?) := by rfl
set_option maxRecDepth 100000 in
theorem zg_law_1 : (zl_law_1.flatMap (zz_wr zt_hh zp_P zt_cl zm_law.1.1.cls)).all goodWord = true := by decide +kernel
set_option maxRecDepth 100000 in
theorem zr_law_1 : (zl_law_1.flatMap (zz_wn zp_P zm_law.1.1.cls)).map some = ([] : List Nat).map (fun i => lw_tbl[i]?) := by rfl
set_option maxRecDepth 100000 in
theorem zs_law_1 : (zl_law_1.flatMap (zz_wn zp_P zm_law.1.1.cls)).all zz_isN = true := by decide +kernel
set_option maxRecDepth 100000 in
theorem zb_law_1 : zl_law_1.all (fun r => zz_wb zt_hh zp_P zt_cl zt_tf zt_fd zt_nf zm_law.1.1.cls zm_law.1.1.name r) = true := by decide +kernel
set_option maxRecDepth 100000 in
theorem zd_law_2 : ∀ r ∈ zl_law_2, decode zm_law.1.2.1 r.1 = .ok (r.2.1, r.2.2.1) := by decide +kernel
set_option maxRecDepth 100000 in
theorem zq_law_2 : (zl_law_2.flatMap (zz_wr zt_hh zp_P zt_cl zm_law.1.1.cls)).map some = ([613, 614, 612, 2072, 2073, 2071, 1052, 1053, 1051, 2241, 2242, 2240] : List Nat).map (fun i => lw_tbl[i]?) := by rfl
set_option maxRecDepth 100000 in
theorem zg_law_2 : (zl_law_2.flatMap (zz_wr zt_hh zp_P zt_cl zm_law.1.1.cls)).all goodWord = true := by decide +kernel
set_option maxRecDepth 100000 in
theorem zr_law_2 : (zl_law_2.flatMap (zz_wn zp_P zm_law.1.1.cls)).map some = ([] : List Nat).map (fun i => lw_tbl[i]?) := by rfl
set_option maxRecDepth 100000 in
theorem zs_law_2 : (zl_law_2.flatMap (zz_wn zp_P zm_law.1.1.cls)).all zz_isN = true := by decide +kernel
set_option maxRecDepth 100000 in
theorem zb_law_2 : zl_law_2.all (fun r => zz_wb zt_hh zp_P zt_cl zt_tf zt_fd zt_nf zm_law.1.1.cls zm_law.1.1.name r) = true := by decide +kernel
set_option maxRecDepth 100000 in
theorem zd_law_3 : ∀ r ∈ zl_law_3, decode zm_law.1.2.1 r.1 = .ok (r.2.1, r.2.2.1) := by decide +kernel
set_option maxRecDepth 100000 in
theorem zq_law_3 : (zl_law_3.flatMap (zz_wr zt_hh zp_P zt_cl zm_law.1.1.cls)).map some = ([1056, 1057, 1055, 2245, 2246, 2244, 1061, 1062, 1060] : List Nat).map (fun i => lw_tbl[i]?) := by rfl
set_option maxRecDepth 100000 in
theorem zg_law_3 : (zl_law_3.flatMap (zz_wr zt_hh zp_P zt_cl zm_law.1.1.cls)).all goodWord = true := by decide +kernel
set_option maxRecDepth 100000 in
theorem zr_law_3 : (zl_law_3.flatMap (zz_wn zp_P zm_law.1.1.cls)).map some = ([] : List Nat).map (fun i => lw_tbl[i]?) := by rfl
set_option maxRecDepth 100000 in
theorem zs_law_3 : (zl_law_3.flatMap (zz_wn zp_P zm_law.1.1.cls)).all zz_isN = true := by decide +kernel
set_option maxRecDepth 100000 in
theorem zb_law_3 : zl_law_3.all (fun r => zz_wb zt_hh zp_P zt_cl zt_tf zt_fd zt_nf zm_law.1.1.cls zm_law.1.1.name r) = true := by decide +kernel
set_option maxRecDepth 100000 in
theorem zd_law_4 : ∀ r ∈ zl_law_4, decode zm_law.1.2.1 r.1 = .ok (r.2.1, r.2.2.1) := by decide +kernel
set_option maxRecDepth 100000 in
theorem zq_law_4 : (zl_law_4.flatMap (zz_wr zt_hh zp_P zt_cl zm_law.1.1.cls)).map some = ([2249, 2250, 2248, 1631, 1632, 1630, 2516, 2517, 2515] : List Nat).map (fun i => lw_tbl[i]?) := by rfl
set_option maxRecDepth 100000 in
theorem zg_law_4 : (zl_law_4.flatMap (zz_wr zt_hh zp_P zt_cl zm_law.1.1.cls)).all goodWord = true := by decide +kernel
set_option maxRecDepth 100000 in
theorem zr_law_4 : (zl_law_4.flatMap (zz_wn zp_P zm_law.1.1.cls)).map some = ([] : List Nat).map (fun i => lw_tbl[i]?) := by rfl
set_option maxRecDepth 100000 in
theorem zs_law_4 : (zl_law_4.flatMap (zz_wn zp_P zm_law.1.1.cls)).all zz_isN = true := by decide +kernel
set_option maxRecDepth 100000 in
theorem zb_law_4 : zl_law_4.all (fun r => zz_wb zt_hh zp_P zt_cl zt_tf zt_fd zt_nf zm_law.1.1.cls zm_law.1.1.name r) = true := by decide +kernel
set_option maxRecDepth 100000 in
theorem zd_law_5 : ∀ r ∈ zl_law_5, decode zm_law.1.2.1 r.1 = .ok (r.2.1, r.2.2.1) := by decide +kernel
set_option maxRecDepth 100000 in
theorem zq_law_5 : (zl_law_5.flatMap (zz_wr zt_hh zp_P zt_cl zm_law.1.1.cls)).map some = ([1639, 1640, 1638, 2520, 2521, 2519, 1647, 1648, 1646, 2524, 2525, 2523, 1655, 1656, 1654, 2528, 2529, 2527] : List Nat).map (fun i => lw_tbl[i]?) := by rfl
set_option maxRecDepth 100000 in
theorem zg_law_5 : (zl_law_5.flatMap (zz_wr zt_hh zp_P zt_cl zm_law.1.1.cls)).all goodWord = true := by decide +kernel
set_option maxRecDepth 100000 in
theorem zr_law_5 : (zl_law_5.flatMap (zz_wn zp_P zm_law.1.1.cls)).map some = ([] : List Nat).map (fun i => lw_tbl[i]?) := by rfl
set_option maxRecDepth 100000 in
theorem zs_law_5 : (zl_law_5.flatMap (zz_wn zp_P zm_law.1.1.cls)).all zz_isN = true := by decide +kernel
set_option maxRecDepth 100000 in
theorem zb_law_5 : zl_law_5.all (fun r => zz_wb zt_hh zp_P zt_cl zt_tf zt_fd zt_nf zm_law.1.1.cls zm_law.1.1.name r) = true := by decide +kernel
set_option maxRecDepth 100000 in
theorem zd_law_6 : ∀ r ∈ zl_law_6, decode zm_law.1.2.1 r.1 = .ok (r.2.1, r.2.2.1) := by decide +kernel
set_option maxRecDepth 100000 in
theorem zq_law_6 : (zl_law_6.flatMap (zz_wr zt_hh zp_P zt_cl zm_law.1.1.cls)).map some = ([1668, 1669, 1667, 2535, 2536, 2534, 1676, 1677, 1675] : List Nat).map (fun i => lw_tbl[i]?) := by rfl
set_option maxRecDepth 100000 in
theorem zg_law_6 : (zl_law_6.flatMap (zz_wr zt_hh zp_P zt_cl zm_law.1.1.cls)).all goodWord = true := by decide +kernel
set_option maxRecDepth 100000 in
theorem zr_law_6 : (zl_law_6.flatMap (zz_wn zp_P zm_law.1.1.cls)).map some = ([] : List Nat).map (fun i => lw_tbl[i]?) := by rfl
set_option maxRecDepth 100000 in
theorem zs_law_6 : (zl_law_6.flatMap (zz_wn zp_P zm_law.1.1.cls)).all zz_isN = true := by decide +kernel
set_option maxRecDepth 100000 in
theorem zb_law_6 : zl_law_6.all (fun r => zz_wb zt_hh zp_P zt_cl zt_tf zt_fd zt_nf zm_law.1.1.cls zm_law.1.1.name r) = true := by decide +kernel
set_option maxRecDepth 100000 in
theorem zd_law_7 : ∀ r ∈ zl_law_7, decode zm_law.1.2.1 r.1 = .ok (r.2.1, r.2.2.1) := by decide +kernel
set_option maxRecDepth 100000 in
theorem zq_law_7 : (zl_law_7.flatMap (zz_wr zt_hh zp_P zt_cl zm_law.1.1.cls)).map some = ([2539, 2540, 2538, 1685, 1686, 1684, 2543, 2544, 2542, 1693, 1694, 1692, 2547, 2548, 2546] : List Nat).map (fun i => lw_tbl[i]?) := by rfl
set_option maxRecDepth 100000 in
theorem zg_law_7 : (zl_law_7.flatMap (zz_wr zt_hh zp_P zt_cl zm_law.1.1.cls)).all goodWord = true := by decide +kernel
set_option maxRecDepth 100000 in
theorem zr_law_7 : (zl_law_7.flatMap (zz_wn zp_P zm_law.1.1.cls)).map some = ([] : List Nat).map (fun i => lw_tbl[i]?) := by rfl
set_option maxRecDepth 100000 in
theorem zs_law_7 : (zl_law_7.flatMap (zz_wn zp_P zm_law.1.1.cls)).all zz_isN = true := by decide +kernel
set_option maxRecDepth 100000 in
theorem zb_law_7 : zl_law_7.all (fun r => zz_wb zt_hh zp_P zt_cl zt_tf zt_fd zt_nf zm_law.1.1.cls zm_law.1.1.name r) = true := by decide +kernel
set_option maxRecDepth 100000 in
theorem zd_law_8 : ∀ r ∈ zl_law_8, decode zm_law.1.2.1 r.1 = .ok (r.2.1, r.2.2.1) := by decide +kernel
set_option maxRecDepth 100000 in
theorem zq_law_8 : (zl_law_8.flatMap (zz_wr zt_hh zp_P zt_cl zm_law.1.1.cls)).map some = ([1697, 1698, 1696, 2551, 2552, 2550] : List Nat).map (fun i => lw_tbl[i]?) := by rfl
set_option maxRecDepth 100000 in
theorem zg_law_8 : (zl_law_8.flatMap (zz_wr zt_hh zp_P zt_cl zm_law.1.1.cls)).all goodWord = true := by decide +kernel
set_option maxRecDepth 100000 in
theorem zr_law_8 : (zl_law_8.flatMap (zz_wn zp_P zm_law.1.1.cls)).map some = ([] : List Nat).map (fun i => lw_tbl[i]?) := by rfl
set_option maxRecDepth 100000 in
theorem zs_law_8 : (zl_law_8.flatMap (zz_wn zp_P zm_law.1.1.cls)).all zz_isN = true := by decide +kernel
set_option maxRecDepth 100000 in
theorem zb_law_8 : zl_law_8.all (fun r => zz_wb zt_hh zp_P zt_cl zt_tf zt_fd zt_nf zm_law.1.1.cls zm_law.1.1.name r) = true := by decide +kernel
set_option maxRecDepth 100000 in
theorem zd_law_9 : ∀ r ∈ zl_law_9, decode zm_law.1.2.1 r.1 = .ok (r.2.1, r.2.2.1) := by decide +kernel
set_option maxRecDepth 100000 in
theorem zq_law_9 : (zl_law_9.flatMap (zz_wr zt_hh zp_P zt_cl zm_law.1.1.cls)).map some = ([1704, 1705, 1703, 2556, 2557, 2555, 1710, 1711, 1709] : List Nat).map (fun i => lw_tbl[i]?) := by rfl
set_option maxRecDepth 100000 in
theorem zg_law_9 : (zl_law_9.flatMap (zz_wr zt_hh zp_P zt_cl zm_law.1.1.cls)).all goodWord = true := by decide +kernel
set_option maxRecDepth 100000 in
theorem zr_law_9 : (zl_law_9.flatMap (zz_wn zp_P zm_law.1.1.cls)).map some = ([] : List Nat).map (fun i => lw_tbl[i]?) := by rfl
set_option maxRecDepth 100000 in
theorem zs_law_9 : (zl_law_9.flatMap (zz_wn zp_P zm_law.1.1.cls)).all zz_isN = true := by decide +kernel
set_option maxRecDepth 100000 in
theorem zb_law_9 : zl_law_9.all (fun r => zz_wb zt_hh zp_P zt_cl zt_tf zt_fd zt_nf zm_law.1.1.cls zm_law.1.1.name r) = true := by decide +kernel
set_option maxRecDepth 100000 in
theorem zd_law_10 : ∀ r ∈ zl_law_10, decode zm_law.1.2.1 r.1 = .ok (r.2.1, r.2.2.1) := by decide +kernel
set_option maxRecDepth 100000 in
theorem zq_law_10 : (zl_law_10.flatMap (zz_wr zt_hh zp_P zt_cl zm_law.1.1.cls)).map some = ([2560, 2561, 2559, 1718, 1719, 1717, 2564, 2565, 2563, 1731, 1732, 1730, 2568, 2569, 2567, 1735, 1736, 1734, 2572, 2573, 2571] : List Nat).map (fun i => lw_tbl[i]?) := by rfl
set_option maxRecDepth 100000 in
theorem zg_law_10 : (zl_law_10.flatMap (zz_wr zt_hh zp_P zt_cl zm_law.1.1.cls)).all goodWord = true := by decide +kernel
set_option maxRecDepth 100000 in
theorem zr_law_10 : (zl_law_10.flatMap (zz_wn zp_P zm_law.1.1.cls)).map some = ([] : List Nat).map (fun i => lw_tbl[i]?) := by rfl
set_option maxRecDepth 100000 in
theorem zs_law_10 : (zl_law_10.flatMap (zz_wn zp_P zm_law.1.1.cls)).all zz_isN = true := by decide +kernel
set_option maxRecDepth 100000 in
theorem zb_law_10 : zl_law_10.all (fun r => zz_wb zt_hh zp_P zt_cl zt_tf zt_fd zt_nf zm_law.1.1.cls zm_law.1.1.name r) = true := by decide +kernel
set_option maxRecDepth 100000 in
theorem zy_law_0 : zl_law_0.all (fun r => zz_tb zt_hh zp_P zm_law r) = true := by decide +kernel
set_option maxRecDepth 100000 in
theorem zy_law_1 : zl_law_1.all (fun r => zz_tb zt_hh zp_P zm_law r) = true := by decide +kernel
set_option maxRecDepth 100000 in
theorem zy_law_2 : zl_law_2.all (fun r => zz_tb zt_hh zp_P zm_law r) = true := by decide +kernel
set_option maxRecDepth 100000 in
theorem zy_law_3 : zl_law_3.all (fun r => zz_tb zt_hh zp_P zm_law r) = true := by decide +kernel
set_option maxRecDepth 100000 in
theorem zy_law_4 : zl_law_4.all (fun r => zz_tb zt_hh zp_P zm_law r) = true := by decide +kernel
set_option maxRecDepth 100000 in
theorem zy_law_5 : zl_law_5.all (fun r => zz_tb zt_hh zp_P zm_law r) = true := by decide +kernel
set_option maxRecDepth 100000 in
theorem zy_law_6 : zl_law_6.all (fun r => zz_tb zt_hh zp_P zm_law r) = true := by decide +kernel
set_option maxRecDepth 100000 in
theorem zy_law_7 : zl_law_7.all (fun r => zz_tb zt_hh zp_P zm_law r) = true := by decide +kernel
set_option maxRecDepth 100000 in
theorem zy_law_8 : zl_law_8.all (fun r => zz_tb zt_hh zp_P zm_law r) = true := by decide +kernel
set_option maxRecDepth 100000 in
theorem zy_law_9 : zl_law_9.all (fun r => zz_tb zt_hh zp_P zm_law r) = true := by decide +kernel
set_option maxRecDepth 100000 in
theorem zy_law_10 : zl_law_10.all (fun r => zz_tb zt_hh zp_P zm_law r) = true := by decide +kernel
theorem zw_law : zz_okW zt_hh zp_P zt_cl zt_tf zt_fd zt_nf zt_T zt_N zm_law := List.forall_mem_cons.mpr ⟨(zz_w_okL zd_law_0 zb_law_0 (zz_places goodWord zq_law_0 zg_law_0) (zz_places zz_isN zr_law_0 zs_law_0) zy_law_0), List.forall_mem_cons.mpr ⟨(zz_w_okL zd_law_1 zb_law_1 (zz_places goodWord zq_law_1 zg_law_1) (zz_places zz_isN zr_law_1 zs_law_1) zy_law_1), List.forall_mem_cons.mpr ⟨(zz_w_okL zd_law_2 zb_law_2 (zz_places goodWord zq_law_2 zg_law_2) (zz_places zz_isN zr_law_2 zs_law_2) zy_law_2), List.forall_mem_cons.mpr ⟨(zz_w_okL zd_law_3 zb_law_3 (zz_places goodWord zq_law_3 zg_law_3) (zz_places zz_isN zr_law_3 zs_law_3) zy_law_3), List.forall_mem_cons.mpr ⟨(zz_w_okL zd_law_4 zb_law_4 (zz_places goodWord zq_law_4 zg_law_4) (zz_places zz_isN zr_law_4 zs_law_4) zy_law_4), List.forall_mem_cons.mpr ⟨(zz_w_okL zd_law_5 zb_law_5 (zz_places goodWord zq_law_5 zg_law_5) (zz_places zz_isN zr_law_5 zs_law_5) zy_law_5), List.forall_mem_cons.mpr ⟨(zz_w_okL zd_law_6 zb_law_6 (zz_places goodWord zq_law_6 zg_law_6) (zz_places zz_isN zr_law_6 zs_law_6) zy_law_6), List.forall_mem_cons.mpr ⟨(zz_w_okL zd_law_7 zb_law_7 (zz_places goodWord zq_law_7 zg_law_7) (zz_places zz_isN zr_law_7 zs_law_7) zy_law_7), List.forall_mem_cons.mpr ⟨(zz_w_okL zd_law_8 zb_law_8 (zz_places goodWord zq_law_8 zg_law_8) (zz_places zz_isN zr_law_8 zs_law_8) zy_law_8), List.forall_mem_cons.mpr ⟨(zz_w_okL zd_law_9 zb_law_9 (zz_places goodWord zq_law_9 zg_law_9) (zz_places zz_isN zr_law_9 zs_law_9) zy_law_9), List.forall_mem_cons.mpr ⟨(zz_w_okL zd_law_10 zb_law_10 (zz_places goodWord zq_law_10 zg_law_10) (zz_places zz_isN zr_law_10 zs_law_10) zy_law_10), (fun _ h => absurd h List.not_mem_nil)⟩⟩⟩⟩⟩⟩⟩⟩⟩⟩⟩
set_option maxRecDepth 100000 in
theorem zd_0_0 : ∀ r ∈ zl_0_0, decode zm_0.1.2.1 r.1 = .ok (r.2.1, r.2.2.1) := by decide +kernel
set_option maxRecDepth 100000 in
theorem zq_0_0 : (zl_0_0.flatMap (zz_wr zt_hh zp_P zt_cl zm_0.1.1.cls)).map some = ([248, 249, 250, 288, 544, 251, 252, 217, 254, 546, 328, 329, 219, 331, 547, 328, 329, 219, 331, 548, 549, 550, 365, 366, 220, 368, 551, 365, 552, 384, 385, 221, 387] : List Nat).map (fun i => lw_tbl[i]?) := by rfl
set_option maxRecDepth 100000 in
theorem zg_0_0 : (zl_0_0.flatMap (zz_wr zt_hh zp_P zt_cl zm_0.1.1.cls)).all goodWord = true := by decide +kernel
set_option maxRecDepth 100000 in
theorem zr_0_0 : (zl_0_0.flatMap (zz_wn zp_P zm_0.1.1.cls)).map some = ([253, 330, 330, 367, 383, 386] : List Nat).map (fun i => lw_tbl[i]?) := by rfl
set_option maxRecDepth 100000 in
theorem zs_0_0 : (zl_0_0.flatMap (zz_wn zp_P zm_0.1.1.cls)).all zz_isN = true := by decide +kernel
set_option maxRecDepth 100000 in
theorem zb_0_0 : zl_0_0.all (fun r => zz_wb zt_hh zp_P zt_cl zt_tf zt_fd zt_nf zm_0.1.1.cls zm_0.1.1.name r) = true := by decide +kernel
set_option maxRecDepth 100000 in
theorem zd_0_1 : ∀ r ∈ zl_0_1, decode zm_0.1.2.1 r.1 = .ok (r.2.1, r.2.2.1) := by decide +kernel
set_option maxRecDepth 100000 in
theorem zq_0_1 : (zl_0_1.flatMap (zz_wr zt_hh zp_P zt_cl zm_0.1.1.cls)).map some = ([554, 403, 404, 222, 406, 555, 419, 420, 223, 422, 556, 453, 454, 224, 554, 555, 556, 456, 455, 557] : List Nat).map (fun i => lw_tbl[i]?) := by rfl
set_option maxRecDepth 100000 in
theorem zg_0_1 : (zl_0_1.flatMap (zz_wr zt_hh zp_P zt_cl zm_0.1.1.cls)).all goodWord = true := by decide +kernel
set_option maxRecDepth 100000 in
theorem zr_0_1 : (zl_0_1.flatMap (zz_wn zp_P zm_0.1.1.cls)).map some = ([405, 421] : List Nat).map (fun i => lw_tbl[i]?) := by rfl
set_option maxRecDepth 100000 in
theorem zs_0_1 : (zl_0_1.flatMap (zz_wn zp_P zm_0.1.1.cls)).all zz_isN = true := by decide +kernel
set_option maxRecDepth 100000 in
theorem zb_0_1 : zl_0_1.all (fun r => zz_wb zt_hh zp_P zt_cl zt_tf zt_fd zt_nf zm_0.1.1.cls zm_0.1.1.name r) = true := by decide +kernel
set_option maxRecDepth 100000 in
theorem zy_0_0 : zl_0_0.all (fun r => zz_tb zt_hh zp_P zm_0 r) = true := by decide +kernel
set_option maxRecDepth 100000 in
theorem zy_0_1 : zl_0_1.all (fun r => zz_tb zt_hh zp_P zm_0 r) = true := by decide +kernel
theorem zw_0 : zz_okW zt_hh zp_P zt_cl zt_tf zt_fd zt_nf zt_T zt_N zm_0 := List.forall_mem_cons.mpr ⟨(zz_w_okL zd_0_0 zb_0_0 (zz_places goodWord zq_0_0 zg_0_0) (zz_places zz_isN zr_0_0 zs_0_0) zy_0_0), List.forall_mem_cons.mpr ⟨(zz_w_okL zd_0_1 zb_0_1 (zz_places goodWord zq_0_1 zg_0_1) (zz_places zz_isN zr_0_1 zs_0_1) zy_0_1), (fun _ h => absurd h List.not_mem_nil)⟩⟩
set_option maxRecDepth 100000 in
theorem zq_0 : [zz_cw zt_hh zm_0, Cond.initialized zm_0.1.1.cls].map some = ([247, 216] : List Nat).map (fun i => lw_tbl[i]?) := by rfl
set_option maxRecDepth 100000 in
theorem zg_0 : [zz_cw zt_hh zm_0, Cond.initialized zm_0.1.1.cls].all goodWord = true := by decide +kernel
set_option maxRecDepth 100000 in
theorem zb_0 : (plainName zm_0.1.1.cls && (decide (zm_0.1.1.cls ≠ "java/lang/invoke/MethodHandle" ∧ zm_0.1.1.cls ≠ "java/lang/invoke/VarHandle") && decide (zm_0.1.2.2.1 ≤ 40))) = true := by decide +kernel
theorem zo_0 : zz_okM zt_hh zp_P zt_cl zt_tf zt_fd zt_nf zt_T zt_N zm_0 := zz_w_okM zw_0 zb_0 (zz_places goodWord zq_0 zg_0)
set_option maxRecDepth 100000 in
theorem zd_1_0 : ∀ r ∈ zl_1_0, decode zm_1.1.2.1 r.1 = .ok (r.2.1, r.2.2.1) := by decide +kernel
set_option maxRecDepth 100000 in
theorem zq_1_0 : (zl_1_0.flatMap (zz_wr zt_hh zp_P zt_cl zm_1.1.1.cls)).map some = ([545, 545, 544, 544, 544, 591, 592, 228, 593, 595, 594, 544, 610, 0, 608, 610, 0, 608, 610, 0, 608, 610, 0, 608] : List Nat).map (fun i => lw_tbl[i]?) := by rfl
set_option maxRecDepth 100000 in
theorem zg_1_0 : (zl_1_0.flatMap (zz_wr zt_hh zp_P zt_cl zm_1.1.1.cls)).all goodWord = true := by decide +kernel
set_option maxRecDepth 100000 in
theorem zr_1_0 : (zl_1_0.flatMap (zz_wn zp_P zm_1.1.1.cls)).map some = ([] : List Nat).map (fun i => lw_tbl[i]?) := by rfl
set_option maxRecDepth 100000 in
theorem zs_1_0 : (zl_1_0.flatMap (zz_wn zp_P zm_1.1.1.cls)).all zz_isN = true := by decide +kernel
set_option maxRecDepth 100000 in
theorem zb_1_0 : zl_1_0.all (fun r => zz_wb zt_hh zp_P zt_cl zt_tf zt_fd zt_nf zm_1.1.1.cls zm_1.1.1.name r) = true := by decide +kernel
set_option maxRecDepth 100000 in
theorem zd_1_1 : ∀ r ∈ zl_1_1, decode zm_1.1.2.1 r.1 = .ok (r.2.1, r.2.2.1) := by decide +kernel
set_option maxRecDepth 100000 in
theorem zq_1_1 : (zl_1_1.flatMap (zz_wr zt_hh zp_P zt_cl zm_1.1.1.cls)).map some = ([610, 0, 608, 545] : List Nat).map (fun i => lw_tbl[i]?) := by rfl
set_option maxRecDepth 100000 in
theorem zg_1_1 : (zl_1_1.flatMap (zz_wr zt_hh zp_P zt_cl zm_1.1.1.cls)).all goodWord = true := by decide +kernel
set_option maxRecDepth 100000 in
theorem zr_1_1 : (zl_1_1.flatMap (zz_wn zp_P zm_1.1.1.cls)).map some = ([] : List Nat).map (fun i => lw_tbl[i]?) := by rfl
set_option maxRecDepth 100000 in
theorem zs_1_1 : (zl_1_1.flatMap (zz_wn zp_P zm_1.1.1.cls)).all zz_isN = true := by decide +kernel
set_option maxRecDepth 100000 in
theorem zb_1_1 : zl_1_1.all (fun r => zz_wb zt_hh zp_P zt_cl zt_tf zt_fd zt_nf zm_1.1.1.cls zm_1.1.1.name r) = true := by decide +kernel
set_option maxRecDepth 100000 in
theorem zy_1_0 : zl_1_0.all (fun r => zz_tb zt_hh zp_P zm_1 r) = true := by decide +kernel
set_option maxRecDepth 100000 in
theorem zy_1_1 : zl_1_1.all (fun r => zz_tb zt_hh zp_P zm_1 r) = true := by decide +kernel
theorem zw_1 : zz_okW zt_hh zp_P zt_cl zt_tf zt_fd zt_nf zt_T zt_N zm_1 := List.forall_mem_cons.mpr ⟨(zz_w_okL zd_1_0 zb_1_0 (zz_places goodWord zq_1_0 zg_1_0) (zz_places zz_isN zr_1_0 zs_1_0) zy_1_0), List.forall_mem_cons.mpr ⟨(zz_w_okL zd_1_1 zb_1_1 (zz_places goodWord zq_1_1 zg_1_1) (zz_places zz_isN zr_1_1 zs_1_1) zy_1_1), (fun _ h => absurd h List.not_mem_nil)⟩⟩
set_option maxRecDepth 100000 in
theorem zq_1 : [zz_cw zt_hh zm_1, Cond.initialized zm_1.1.1.cls].map some = ([590, 216] : List Nat).map (fun i => lw_tbl[i]?) := by rfl
set_option maxRecDepth 100000 in
theorem zg_1 : [zz_cw zt_hh zm_1, Cond.initialized zm_1.1.1.cls].all goodWord = true := by decide +kernel
set_option maxRecDepth 100000 in
theorem zb_1 : (plainName zm_1.1.1.cls && (decide (zm_1.1.1.cls ≠ "java/lang/invoke/MethodHandle" ∧ zm_1.1.1.cls ≠ "java/lang/invoke/VarHandle") && decide (zm_1.1.2.2.1 ≤ 40))) = true := by decide +kernel
theorem zo_1 : zz_okM zt_hh zp_P zt_cl zt_tf zt_fd zt_nf zt_T zt_N zm_1 := zz_w_okM zw_1 zb_1 (zz_places goodWord zq_1 zg_1)
set_option maxRecDepth 100000 in
theorem zd_2_0 : ∀ r ∈ zl_2_0, decode zm_2.1.2.1 r.1 = .ok (r.2.1, r.2.2.1) := by decide +kernel
set_option maxRecDepth 100000 in
theorem zq_2_0 : (zl_2_0.flatMap (zz_wr zt_hh zp_P zt_cl zm_2.1.1.cls)).map some = ([544, 545, 545, 545] : List Nat).map (fun i => lw_tbl[i]?) := by rfl
set_option maxRecDepth 100000 in
theorem zg_2_0 : (zl_2_0.flatMap (zz_wr zt_hh zp_P zt_cl zm_2.1.1.cls)).all goodWord = true := by decide +kernel
set_option maxRecDepth 100000 in
theorem zr_2_0 : (zl_2_0.flatMap (zz_wn zp_P zm_2.1.1.cls)).map some = ([] : List Nat).map (fun i => lw_tbl[i]?) := by rfl
set_option maxRecDepth 100000 in
theorem zs_2_0 : (zl_2_0.flatMap (zz_wn zp_P zm_2.1.1.cls)).all zz_isN = true := by decide +kernel
set_option maxRecDepth 100000 in
theorem zb_2_0 : zl_2_0.all (fun r => zz_wb zt_hh zp_P zt_cl zt_tf zt_fd zt_nf zm_2.1.1.cls zm_2.1.1.name r) = true := by decide +kernel
set_option maxRecDepth 100000 in
theorem zy_2_0 : zl_2_0.all (fun r => zz_tb zt_hh zp_P zm_2 r) = true := by decide +kernel
theorem zw_2 : zz_okW zt_hh zp_P zt_cl zt_tf zt_fd zt_nf zt_T zt_N zm_2 := List.forall_mem_cons.mpr ⟨(zz_w_okL zd_2_0 zb_2_0 (zz_places goodWord zq_2_0 zg_2_0) (zz_places zz_isN zr_2_0 zs_2_0) zy_2_0), (fun _ h => absurd h List.not_mem_nil)⟩
set_option maxRecDepth 100000 in
theorem zq_2 : [zz_cw zt_hh zm_2, Cond.initialized zm_2.1.1.cls].map some = ([611, 216] : List Nat).map (fun i => lw_tbl[i]?) := by rfl
set_option maxRecDepth 100000 in
theorem zg_2 : [zz_cw zt_hh zm_2, Cond.initialized zm_2.1.1.cls].all goodWord = true := by decide +kernel
set_option maxRecDepth 100000 in
theorem zb_2 : (plainName zm_2.1.1.cls && (decide (zm_2.1.1.cls ≠ "java/lang/invoke/MethodHandle" ∧ zm_2.1.1.cls ≠ "java/lang/invoke/VarHandle") && decide (zm_2.1.2.2.1 ≤ 40))) = true := by decide +kernel
theorem zo_2 : zz_okM zt_hh zp_P zt_cl zt_tf zt_fd zt_nf zt_T zt_N zm_2 := zz_w_okM zw_2 zb_2 (zz_places goodWord zq_2 zg_2)
set_option maxRecDepth 100000 in
theorem zd_3_0 : ∀ r ∈ zl_3_0, decode zm_3.1.2.1 r.1 = .ok (r.2.1, r.2.2.1) := by decide +kernel
set_option maxRecDepth 100000 in
theorem zq_3_0 : (zl_3_0.flatMap (zz_wr zt_hh zp_P zt_cl zm_3.1.1.cls)).map some = ([545, 545, 549, 550, 546, 544, 548, 617, 618, 616, 546, 1043, 1044, 1042, 549, 546, 1047, 1048, 1046, 550] : List Nat).map (fun i => lw_tbl[i]?) := by rfl
set_option maxRecDepth 100000 in
theorem zg_3_0 : (zl_3_0.flatMap (zz_wr zt_hh zp_P zt_cl zm_3.1.1.cls)).all goodWord = true := by decide +kernel
set_option maxRecDepth 100000 in
theorem zr_3_0 : (zl_3_0.flatMap (zz_wn zp_P zm_3.1.1.cls)).map some = ([] : List Nat).map (fun i => lw_tbl[i]?) := by rfl
set_option maxRecDepth 100000 in
theorem zs_3_0 : (zl_3_0.flatMap (zz_wn zp_P zm_3.1.1.cls)).all zz_isN = true := by decide +kernel
set_option maxRecDepth 100000 in
theorem zb_3_0 : zl_3_0.all (fun r => zz_wb zt_hh zp_P zt_cl zt_tf zt_fd zt_nf zm_3.1.1.cls zm_3.1.1.name r) = true := by decide +kernel
set_option maxRecDepth 100000 in
theorem zd_3_1 : ∀ r ∈ zl_3_1, decode zm_3.1.2.1 r.1 = .ok (r.2.1, r.2.2.1) := by decide +kernel
set_option maxRecDepth 100000 in
theorem zq_3_1 : (zl_3_1.flatMap (zz_wr zt_hh zp_P zt_cl zm_3.1.1.cls)).map some = ([549, 547, 548, 547, 548, 547, 873, 874, 1050] : List Nat).map (fun i => lw_tbl[i]?) := by rfl
set_option maxRecDepth 100000 in
theorem zg_3_1 : (zl_3_1.flatMap (zz_wr zt_hh zp_P zt_cl zm_3.1.1.cls)).all goodWord = true := by decide +kernel
set_option maxRecDepth 100000 in
theorem zr_3_1 : (zl_3_1.flatMap (zz_wn zp_P zm_3.1.1.cls)).map some = ([] : List Nat).map (fun i => lw_tbl[i]?) := by rfl
set_option maxRecDepth 100000 in
theorem zs_3_1 : (zl_3_1.flatMap (zz_wn zp_P zm_3.1.1.cls)).all zz_isN = true := by decide +kernel
set_option maxRecDepth 100000 in
theorem zb_3_1 : zl_3_1.all (fun r => zz_wb zt_hh zp_P zt_cl zt_tf zt_fd zt_nf zm_3.1.1.cls zm_3.1.1.name r) = true := by decide +kernel
set_option maxRecDepth 100000 in
theorem zy_3_0 : zl_3_0.all (fun r => zz_tb zt_hh zp_P zm_3 r) = true := by decide +kernel
set_option maxRecDepth 100000 in
theorem zy_3_1 : zl_3_1.all (fun r => zz_tb zt_hh zp_P zm_3 r) = true := by decide +kernel
theorem zw_3 : zz_okW zt_hh zp_P zt_cl zt_tf zt_fd zt_nf zt_T zt_N zm_3 := List.forall_mem_cons.mpr ⟨(zz_w_okL zd_3_0 zb_3_0 (zz_places goodWord zq_3_0 zg_3_0) (zz_places zz_isN zr_3_0 zs_3_0) zy_3_0), List.forall_mem_cons.mpr ⟨(zz_w_okL zd_3_1 zb_3_1 (zz_places goodWord zq_3_1 zg_3_1) (zz_places zz_isN zr_3_1 zs_3_1) zy_3_1), (fun _ h => absurd h List.not_mem_nil)⟩⟩
set_option maxRecDepth 100000 in
theorem zq_3 : [zz_cw zt_hh zm_3, Cond.initialized zm_3.1.1.cls].map some = ([615, 216] : List Nat).map (fun i => lw_tbl[i]?) := by rfl
set_option maxRecDepth 100000 in
theorem zg_3 : [zz_cw zt_hh zm_3, Cond.initialized zm_3.1.1.cls].all goodWord = true := by decide +kernel
set_option maxRecDepth 100000 in
theorem zb_3 : (plainName zm_3.1.1.cls && (decide (zm_3.1.1.cls ≠ "java/lang/invoke/MethodHandle" ∧ zm_3.1.1.cls ≠ "java/lang/invoke/VarHandle") && decide (zm_3.1.2.2.1 ≤ 40))) = true := by decide +kernel
theorem zo_3 : zz_okM zt_hh zp_P zt_cl zt_tf zt_fd zt_nf zt_T zt_N zm_3 := zz_w_okM zw_3 zb_3 (zz_places goodWord zq_3 zg_3)
set_option maxRecDepth 100000 in
theorem zd_4_0 : ∀ r ∈ zl_4_0, decode zm_4.1.2.1 r.1 = .ok (r.2.1, r.2.2.1) := by decide +kernel
set_option maxRecDepth 100000 in
theorem zq_4_0 : (zl_4_0.flatMap (zz_wr zt_hh zp_P zt_cl zm_4.1.1.cls)).map some = ([549, 550] : List Nat).map (fun i => lw_tbl[i]?) := by rfl
set_option maxRecDepth 100000 in
theorem zg_4_0 : (zl_4_0.flatMap (zz_wr zt_hh zp_P zt_cl zm_4.1.1.cls)).all goodWord = true := by decide +kernel
set_option maxRecDepth 100000 in
theorem zr_4_0 : (zl_4_0.flatMap (zz_wn zp_P zm_4.1.1.cls)).map some = ([] : List Nat).map (fun i => lw_tbl[i]?) := by rfl
set_option maxRecDepth 100000 in
theorem zs_4_0 : (zl_4_0.flatMap (zz_wn zp_P zm_4.1.1.cls)).all zz_isN = true := by decide +kernel
set_option maxRecDepth 100000 in
theorem zb_4_0 : zl_4_0.all (fun r => zz_wb zt_hh zp_P zt_cl zt_tf zt_fd zt_nf zm_4.1.1.cls zm_4.1.1.name r) = true := by decide +kernel
set_option maxRecDepth 100000 in
theorem zy_4_0 : zl_4_0.all (fun r => zz_tb zt_hh zp_P zm_4 r) = true := by decide +kernel
theorem zw_4 : zz_okW zt_hh zp_P zt_cl zt_tf zt_fd zt_nf zt_T zt_N zm_4 := List.forall_mem_cons.mpr ⟨(zz_w_okL zd_4_0 zb_4_0 (zz_places goodWord zq_4_0 zg_4_0) (zz_places zz_isN zr_4_0 zs_4_0) zy_4_0), (fun _ h => absurd h List.not_mem_nil)⟩
set_option maxRecDepth 100000 in
theorem zq_4 : [zz_cw zt_hh zm_4, Cond.initialized zm_4.1.1.cls].map some = ([1054, 216] : List Nat).map (fun i => lw_tbl[i]?) := by rfl
set_option maxRecDepth 100000 in
theorem zg_4 : [zz_cw zt_hh zm_4, Cond.initialized zm_4.1.1.cls].all goodWord = true := by decide +kernel
set_option maxRecDepth 100000 in
theorem zb_4 : (plainName zm_4.1.1.cls && (decide (zm_4.1.1.cls ≠ "java/lang/invoke/MethodHandle" ∧ zm_4.1.1.cls ≠ "java/lang/invoke/VarHandle") && decide (zm_4.1.2.2.1 ≤ 40))) = true := by decide +kernel
theorem zo_4 : zz_okM zt_hh zp_P zt_cl zt_tf zt_fd zt_nf zt_T zt_N zm_4 := zz_w_okM zw_4 zb_4 (zz_places goodWord zq_4 zg_4)
set_option maxRecDepth 100000 in
theorem zd_5_0 : ∀ r ∈ zl_5_0, decode zm_5.1.2.1 r.1 = .ok (r.2.1, r.2.2.1) := by decide +kernel
set_option maxRecDepth 100000 in
theorem zq_5_0 : (zl_5_0.flatMap (zz_wr zt_hh zp_P zt_cl zm_5.1.1.cls)).map some = ([547, 1039, 1040, 1059] : List Nat).map (fun i => lw_tbl[i]?) := by rfl
set_option maxRecDepth 100000 in
theorem zg_5_0 : (zl_5_0.flatMap (zz_wr zt_hh zp_P zt_cl zm_5.1.1.cls)).all goodWord = true := by decide +kernel
set_option maxRecDepth 100000 in
theorem zr_5_0 : (zl_5_0.flatMap (zz_wn zp_P zm_5.1.1.cls)).map some = ([] : List Nat).map (fun i => lw_tbl[i]?) := by rfl
set_option maxRecDepth 100000 in
theorem zs_5_0 : (zl_5_0.flatMap (zz_wn zp_P zm_5.1.1.cls)).all zz_isN = true := by decide +kernel
set_option maxRecDepth 100000 in
theorem zb_5_0 : zl_5_0.all (fun r => zz_wb zt_hh zp_P zt_cl zt_tf zt_fd zt_nf zm_5.1.1.cls zm_5.1.1.name r) = true := by decide +kernel
set_option maxRecDepth 100000 in
theorem zy_5_0 : zl_5_0.all (fun r => zz_tb zt_hh zp_P zm_5 r) = true := by decide +kernel
theorem zw_5 : zz_okW zt_hh zp_P zt_cl zt_tf zt_fd zt_nf zt_T zt_N zm_5 := List.forall_mem_cons.mpr ⟨(zz_w_okL zd_5_0 zb_5_0 (zz_places goodWord zq_5_0 zg_5_0) (zz_places zz_isN zr_5_0 zs_5_0) zy_5_0), (fun _ h => absurd h List.not_mem_nil)⟩
set_option maxRecDepth 100000 in
theorem zq_5 : [zz_cw zt_hh zm_5, Cond.initialized zm_5.1.1.cls].map some = ([1058, 216] : List Nat).map (fun i => lw_tbl[i]?) := by rfl
set_option maxRecDepth 100000 in
theorem zg_5 : [zz_cw zt_hh zm_5, Cond.initialized zm_5.1.1.cls].all goodWord = true := by decide +kernel
set_option maxRecDepth 100000 in
theorem zb_5 : (plainName zm_5.1.1.cls && (decide (zm_5.1.1.cls ≠ "java/lang/invoke/MethodHandle" ∧ zm_5.1.1.cls ≠ "java/lang/invoke/VarHandle") && decide (zm_5.1.2.2.1 ≤ 40))) = true := by decide +kernel
theorem zo_5 : zz_okM zt_hh zp_P zt_cl zt_tf zt_fd zt_nf zt_T zt_N zm_5 := zz_w_okM zw_5 zb_5 (zz_places goodWord zq_5 zg_5)
set_option maxRecDepth 100000 in
theorem zd_6_0 : ∀ r ∈ zl_6_0, decode zm_6.1.2.1 r.1 = .ok (r.2.1, r.2.2.1) := by decide +kernel
set_option maxRecDepth 100000 in
theorem zq_6_0 : (zl_6_0.flatMap (zz_wr zt_hh zp_P zt_cl zm_6.1.1.cls)).map some = ([547, 1039, 1040, 1059, 1065, 1064, 555, 1068, 1069, 1067, 554, 1072, 1073, 1071, 556, 1076, 1077, 1075, 557, 551] : List Nat).map (fun i => lw_tbl[i]?) := by rfl
set_option maxRecDepth 100000 in
theorem zg_6_0 : (zl_6_0.flatMap (zz_wr zt_hh zp_P zt_cl zm_6.1.1.cls)).all goodWord = true := by decide +kernel
set_option maxRecDepth 100000 in
theorem zr_6_0 : (zl_6_0.flatMap (zz_wn zp_P zm_6.1.1.cls)).map some = ([] : List Nat).map (fun i => lw_tbl[i]?) := by rfl
set_option maxRecDepth 100000 in
theorem zs_6_0 : (zl_6_0.flatMap (zz_wn zp_P zm_6.1.1.cls)).all zz_isN = true := by decide +kernel
set_option maxRecDepth 100000 in
theorem zb_6_0 : zl_6_0.all (fun r => zz_wb zt_hh zp_P zt_cl zt_tf zt_fd zt_nf zm_6.1.1.cls zm_6.1.1.name r) = true := by decide +kernel
set_option maxRecDepth 100000 in
theorem zd_6_1 : ∀ r ∈ zl_6_1, decode zm_6.1.2.1 r.1 = .ok (r.2.1, r.2.2.1) := by decide +kernel
set_option maxRecDepth 100000 in
theorem zq_6_1 : (zl_6_1.flatMap (zz_wr zt_hh zp_P zt_cl zm_6.1.1.cls)).map some = ([554, 1084, 1085, 1083, 1136, 1137, 1135, 557, 547, 1140, 1141, 1139, 556, 1589, 1590, 1588, 1594, 107, 1592, 556, 1589, 1590, 1588] : List Nat).map (fun i => lw_tbl[i]?) := by rfl
set_option maxRecDepth 100000 in
theorem zg_6_1 : (zl_6_1.flatMap (zz_wr zt_hh zp_P zt_cl zm_6.1.1.cls)).all goodWord = true := by decide +kernel
set_option maxRecDepth 100000 in
theorem zr_6_1 : (zl_6_1.flatMap (zz_wn zp_P zm_6.1.1.cls)).map some = ([] : List Nat).map (fun i => lw_tbl[i]?) := by rfl
set_option maxRecDepth 100000 in
theorem zs_6_1 : (zl_6_1.flatMap (zz_wn zp_P zm_6.1.1.cls)).all zz_isN = true := by decide +kernel
set_option maxRecDepth 100000 in
theorem zb_6_1 : zl_6_1.all (fun r => zz_wb zt_hh zp_P zt_cl zt_tf zt_fd zt_nf zm_6.1.1.cls zm_6.1.1.name r) = true := by decide +kernel
set_option maxRecDepth 100000 in
theorem zy_6_0 : zl_6_0.all (fun r => zz_tb zt_hh zp_P zm_6 r) = true := by decide +kernel
set_option maxRecDepth 100000 in
theorem zy_6_1 : zl_6_1.all (fun r => zz_tb zt_hh zp_P zm_6 r) = true := by decide +kernel
theorem zw_6 : zz_okW zt_hh zp_P zt_cl zt_tf zt_fd zt_nf zt_T zt_N zm_6 := List.forall_mem_cons.mpr ⟨(zz_w_okL zd_6_0 zb_6_0 (zz_places goodWord zq_6_0 zg_6_0) (zz_places zz_isN zr_6_0 zs_6_0) zy_6_0), List.forall_mem_cons.mpr ⟨(zz_w_okL zd_6_1 zb_6_1 (zz_places goodWord zq_6_1 zg_6_1) (zz_places zz_isN zr_6_1 zs_6_1) zy_6_1), (fun _ h => absurd h List.not_mem_nil)⟩⟩
set_option maxRecDepth 100000 in
theorem zq_6 : [zz_cw zt_hh zm_6, Cond.initialized zm_6.1.1.cls].map some = ([1063, 216] : List Nat).map (fun i => lw_tbl[i]?) := by rfl
set_option maxRecDepth 100000 in
theorem zg_6 : [zz_cw zt_hh zm_6, Cond.initialized zm_6.1.1.cls].all goodWord = true := by decide +kernel
set_option maxRecDepth 100000 in
theorem zb_6 : (plainName zm_6.1.1.cls && (decide (zm_6.1.1.cls ≠ "java/lang/invoke/MethodHandle" ∧ zm_6.1.1.cls ≠ "java/lang/invoke/VarHandle") && decide (zm_6.1.2.2.1 ≤ 40))) = true := by decide +kernel
theorem zo_6 : zz_okM zt_hh zp_P zt_cl zt_tf zt_fd zt_nf zt_T zt_N zm_6 := zz_w_okM zw_6 zb_6 (zz_places goodWord zq_6 zg_6)
set_option maxRecDepth 100000 in
theorem zd_7_0 : ∀ r ∈ zl_7_0, decode zm_7.1.2.1 r.1 = .ok (r.2.1, r.2.2.1) := by decide +kernel
set_option maxRecDepth 100000 in
theorem zq_7_0 : (zl_7_0.flatMap (zz_wr zt_hh zp_P zt_cl zm_7.1.1.cls)).map some = ([556, 1635, 1636, 1634] : List Nat).map (fun i => lw_tbl[i]?) := by rfl
set_option maxRecDepth 100000 in
theorem zg_7_0 : (zl_7_0.flatMap (zz_wr zt_hh zp_P zt_cl zm_7.1.1.cls)).all goodWord = true := by decide +kernel
set_option maxRecDepth 100000 in
theorem zr_7_0 : (zl_7_0.flatMap (zz_wn zp_P zm_7.1.1.cls)).map some = ([] : List Nat).map (fun i => lw_tbl[i]?) := by rfl
set_option maxRecDepth 100000 in
theorem zs_7_0 : (zl_7_0.flatMap (zz_wn zp_P zm_7.1.1.cls)).all zz_isN = true := by decide +kernel
set_option maxRecDepth 100000 in
theorem zb_7_0 : zl_7_0.all (fun r => zz_wb zt_hh zp_P zt_cl zt_tf zt_fd zt_nf zm_7.1.1.cls zm_7.1.1.name r) = true := by decide +kernel
set_option maxRecDepth 100000 in
theorem zy_7_0 : zl_7_0.all (fun r => zz_tb zt_hh zp_P zm_7 r) = true := by decide +kernel
theorem zw_7 : zz_okW zt_hh zp_P zt_cl zt_tf zt_fd zt_nf zt_T zt_N zm_7 := List.forall_mem_cons.mpr ⟨(zz_w_okL zd_7_0 zb_7_0 (zz_places goodWord zq_7_0 zg_7_0) (zz_places zz_isN zr_7_0 zs_7_0) zy_7_0), (fun _ h => absurd h List.not_mem_nil)⟩
set_option maxRecDepth 100000 in
theorem zq_7 : [zz_cw zt_hh zm_7, Cond.initialized zm_7.1.1.cls].map some = ([1633, 216] : List Nat).map (fun i => lw_tbl[i]?) := by rfl
set_option maxRecDepth 100000 in
theorem zg_7 : [zz_cw zt_hh zm_7, Cond.initialized zm_7.1.1.cls].all goodWord = true := by decide +kernel
set_option maxRecDepth 100000 in
theorem zb_7 : (plainName zm_7.1.1.cls && (decide (zm_7.1.1.cls ≠ "java/lang/invoke/MethodHandle" ∧ zm_7.1.1.cls ≠ "java/lang/invoke/VarHandle") && decide (zm_7.1.2.2.1 ≤ 40))) = true := by decide +kernel
theorem zo_7 : zz_okM zt_hh zp_P zt_cl zt_tf zt_fd zt_nf zt_T zt_N zm_7 := zz_w_okM zw_7 zb_7 (zz_places goodWord zq_7 zg_7)
set_option maxRecDepth 100000 in
theorem zd_8_0 : ∀ r ∈ zl_8_0, decode zm_8.1.2.1 r.1 = .ok (r.2.1, r.2.2.1) := by decide +kernel
set_option maxRecDepth 100000 in
theorem zq_8_0 : (zl_8_0.flatMap (zz_wr zt_hh zp_P zt_cl zm_8.1.1.cls)).map some = ([555, 1643, 1644, 1642] : List Nat).map (fun i => lw_tbl[i]?) := by rfl
set_option maxRecDepth 100000 in
theorem zg_8_0 : (zl_8_0.flatMap (zz_wr zt_hh zp_P zt_cl zm_8.1.1.cls)).all goodWord = true := by decide +kernel
set_option maxRecDepth 100000 in
theorem zr_8_0 : (zl_8_0.flatMap (zz_wn zp_P zm_8.1.1.cls)).map some = ([] : List Nat).map (fun i => lw_tbl[i]?) := by rfl
set_option maxRecDepth 100000 in
theorem zs_8_0 : (zl_8_0.flatMap (zz_wn zp_P zm_8.1.1.cls)).all zz_isN = true := by decide +kernel
set_option maxRecDepth 100000 in
theorem zb_8_0 : zl_8_0.all (fun r => zz_wb zt_hh zp_P zt_cl zt_tf zt_fd zt_nf zm_8.1.1.cls zm_8.1.1.name r) = true := by decide +kernel
set_option maxRecDepth 100000 in
theorem zy_8_0 : zl_8_0.all (fun r => zz_tb zt_hh zp_P zm_8 r) = true := by decide +kernel
theorem zw_8 : zz_okW zt_hh zp_P zt_cl zt_tf zt_fd zt_nf zt_T zt_N zm_8 := List.forall_mem_cons.mpr ⟨(zz_w_okL zd_8_0 zb_8_0 (zz_places goodWord zq_8_0 zg_8_0) (zz_places zz_isN zr_8_0 zs_8_0) zy_8_0), (fun _ h => absurd h List.not_mem_nil)⟩
set_option maxRecDepth 100000 in
theorem zq_8 : [zz_cw zt_hh zm_8, Cond.initialized zm_8.1.1.cls].map some = ([1641, 216] : List Nat).map (fun i => lw_tbl[i]?) := by rfl
set_option maxRecDepth 100000 in
theorem zg_8 : [zz_cw zt_hh zm_8, Cond.initialized zm_8.1.1.cls].all goodWord = true := by decide +kernel
set_option maxRecDepth 100000 in
theorem zb_8 : (plainName zm_8.1.1.cls && (decide (zm_8.1.1.cls ≠ "java/lang/invoke/MethodHandle" ∧ zm_8.1.1.cls ≠ "java/lang/invoke/VarHandle") && decide (zm_8.1.2.2.1 ≤ 40))) = true := by decide +kernel
theorem zo_8 : zz_okM zt_hh zp_P zt_cl zt_tf zt_fd zt_nf zt_T zt_N zm_8 := zz_w_okM zw_8 zb_8 (zz_places goodWord zq_8 zg_8)
set_option maxRecDepth 100000 in
theorem zd_9_0 : ∀ r ∈ zl_9_0, decode zm_9.1.2.1 r.1 = .ok (r.2.1, r.2.2.1) := by decide +kernel
set_option maxRecDepth 100000 in
theorem zq_9_0 : (zl_9_0.flatMap (zz_wr zt_hh zp_P zt_cl zm_9.1.1.cls)).map some = ([555, 1651, 1652, 1650] : List Nat).map (fun i => lw_tbl[i]?) := by rfl
set_option maxRecDepth 100000 in
theorem zg_9_0 : (zl_9_0.flatMap (zz_wr zt_hh zp_P zt_cl zm_9.1.1.cls)).all goodWord = true := by decide +kernel
set_option maxRecDepth 100000 in
theorem zr_9_0 : (zl_9_0.flatMap (zz_wn zp_P zm_9.1.1.cls)).map some = ([] : List Nat).map (fun i => lw_tbl[i]?) := by rfl
set_option maxRecDepth 100000 in
theorem zs_9_0 : (zl_9_0.flatMap (zz_wn zp_P zm_9.1.1.cls)).all zz_isN = true := by decide +kernel
set_option maxRecDepth 100000 in
theorem zb_9_0 : zl_9_0.all (fun r => zz_wb zt_hh zp_P zt_cl zt_tf zt_fd zt_nf zm_9.1.1.cls zm_9.1.1.name r) = true := by decide +kernel
set_option maxRecDepth 100000 in
theorem zy_9_0 : zl_9_0.all (fun r => zz_tb zt_hh zp_P zm_9 r) = true := by decide +kernel
theorem zw_9 : zz_okW zt_hh zp_P zt_cl zt_tf zt_fd zt_nf zt_T zt_N zm_9 := List.forall_mem_cons.mpr ⟨(zz_w_okL zd_9_0 zb_9_0 (zz_places goodWord zq_9_0 zg_9_0) (zz_places zz_isN zr_9_0 zs_9_0) zy_9_0), (fun _ h => absurd h List.not_mem_nil)⟩
set_option maxRecDepth 100000 in
theorem zq_9 : [zz_cw zt_hh zm_9, Cond.initialized zm_9.1.1.cls].map some = ([1649, 216] : List Nat).map (fun i => lw_tbl[i]?) := by rfl
set_option maxRecDepth 100000 in
theorem zg_9 : [zz_cw zt_hh zm_9, Cond.initialized zm_9.1.1.cls].all goodWord = true := by decide +kernel
set_option maxRecDepth 100000 in
theorem zb_9 : (plainName zm_9.1.1.cls && (decide (zm_9.1.1.cls ≠ "java/lang/invoke/MethodHandle" ∧ zm_9.1.1.cls ≠ "java/lang/invoke/VarHandle") && decide (zm_9.1.2.2.1 ≤ 40))) = true := by decide +kernel
theorem zo_9 : zz_okM zt_hh zp_P zt_cl zt_tf zt_fd zt_nf zt_T zt_N zm_9 := zz_w_okM zw_9 zb_9 (zz_places goodWord zq_9 zg_9)
set_option maxRecDepth 100000 in
theorem zd_10_0 : ∀ r ∈ zl_10_0, decode zm_10.1.2.1 r.1 = .ok (r.2.1, r.2.2.1) := by decide +kernel
set_option maxRecDepth 100000 in
theorem zq_10_0 : (zl_10_0.flatMap (zz_wr zt_hh zp_P zt_cl zm_10.1.1.cls)).map some = ([1065, 1064, 551, 1659, 1660, 1658, 1664, 111, 1662, 555, 1068, 1069, 1067, 555, 554, 1537, 1538, 1666, 555, 1651, 1652, 1650] : List Nat).map (fun i => lw_tbl[i]?) := by rfl
set_option maxRecDepth 100000 in
theorem zg_10_0 : (zl_10_0.flatMap (zz_wr zt_hh zp_P zt_cl zm_10.1.1.cls)).all goodWord = true := by decide +kernel
set_option maxRecDepth 100000 in
theorem zr_10_0 : (zl_10_0.flatMap (zz_wn zp_P zm_10.1.1.cls)).map some = ([] : List Nat).map (fun i => lw_tbl[i]?) := by rfl
set_option maxRecDepth 100000 in
theorem zs_10_0 : (zl_10_0.flatMap (zz_wn zp_P zm_10.1.1.cls)).all zz_isN = true := by decide +kernel
set_option maxRecDepth 100000 in
theorem zb_10_0 : zl_10_0.all (fun r => zz_wb zt_hh zp_P zt_cl zt_tf zt_fd zt_nf zm_10.1.1.cls zm_10.1.1.name r) = true := by decide +kernel
set_option maxRecDepth 100000 in
theorem zy_10_0 : zl_10_0.all (fun r => zz_tb zt_hh zp_P zm_10 r) = true := by decide +kernel
theorem zw_10 : zz_okW zt_hh zp_P zt_cl zt_tf zt_fd zt_nf zt_T zt_N zm_10 := List.forall_mem_cons.mpr ⟨(zz_w_okL zd_10_0 zb_10_0 (zz_places goodWord zq_10_0 zg_10_0) (zz_places zz_isN zr_10_0 zs_10_0) zy_10_0), (fun _ h => absurd h List.not_mem_nil)⟩
set_option maxRecDepth 100000 in
theorem zq_10 : [zz_cw zt_hh zm_10, Cond.initialized zm_10.1.1.cls].map some = ([1657, 216] : List Nat).map (fun i => lw_tbl[i]?) := by rfl
set_option maxRecDepth 100000 in
theorem zg_10 : [zz_cw zt_hh zm_10, Cond.initialized zm_10.1.1.cls].all goodWord = true := by decide +kernel
set_option maxRecDepth 100000 in
theorem zb_10 : (plainName zm_10.1.1.cls && (decide (zm_10.1.1.cls ≠ "java/lang/invoke/MethodHandle" ∧ zm_10.1.1.cls ≠ "java/lang/invoke/VarHandle") && decide (zm_10.1.2.2.1 ≤ 40))) = true := by decide +kernel
theorem zo_10 : zz_okM zt_hh zp_P zt_cl zt_tf zt_fd zt_nf zt_T zt_N zm_10 := zz_w_okM zw_10 zb_10 (zz_places goodWord zq_10 zg_10)
set_option maxRecDepth 100000 in
theorem zd_11_0 : ∀ r ∈ zl_11_0, decode zm_11.1.2.1 r.1 = .ok (r.2.1, r.2.2.1) := by decide +kernel
set_option maxRecDepth 100000 in
theorem zq_11_0 : (zl_11_0.flatMap (zz_wr zt_hh zp_P zt_cl zm_11.1.1.cls)).map some = ([1065, 1064, 551, 1672, 1673, 1671] : List Nat).map (fun i => lw_tbl[i]?) := by rfl
set_option maxRecDepth 100000 in
theorem zg_11_0 : (zl_11_0.flatMap (zz_wr zt_hh zp_P zt_cl zm_11.1.1.cls)).all goodWord = true := by decide +kernel
set_option maxRecDepth 100000 in
theorem zr_11_0 : (zl_11_0.flatMap (zz_wn zp_P zm_11.1.1.cls)).map some = ([] : List Nat).map (fun i => lw_tbl[i]?) := by rfl
set_option maxRecDepth 100000 in
theorem zs_11_0 : (zl_11_0.flatMap (zz_wn zp_P zm_11.1.1.cls)).all zz_isN = true := by decide +kernel
set_option maxRecDepth 100000 in
theorem zb_11_0 : zl_11_0.all (fun r => zz_wb zt_hh zp_P zt_cl zt_tf zt_fd zt_nf zm_11.1.1.cls zm_11.1.1.name r) = true := by decide +kernel
set_option maxRecDepth 100000 in
theorem zy_11_0 : zl_11_0.all (fun r => zz_tb zt_hh zp_P zm_11 r) = true := by decide +kernel
theorem zw_11 : zz_okW zt_hh zp_P zt_cl zt_tf zt_fd zt_nf zt_T zt_N zm_11 := List.forall_mem_cons.mpr ⟨(zz_w_okL zd_11_0 zb_11_0 (zz_places goodWord zq_11_0 zg_11_0) (zz_places zz_isN zr_11_0 zs_11_0) zy_11_0), (fun _ h => absurd h List.not_mem_nil)⟩
set_option maxRecDepth 100000 in
theorem zq_11 : [zz_cw zt_hh zm_11, Cond.initialized zm_11.1.1.cls].map some = ([1670, 216] : List Nat).map (fun i => lw_tbl[i]?) := by rfl
set_option maxRecDepth 100000 in
theorem zg_11 : [zz_cw zt_hh zm_11, Cond.initialized zm_11.1.1.cls].all goodWord = true := by decide +kernel
set_option maxRecDepth 100000 in
theorem zb_11 : (plainName zm_11.1.1.cls && (decide (zm_11.1.1.cls ≠ "java/lang/invoke/MethodHandle" ∧ zm_11.1.1.cls ≠ "java/lang/invoke/VarHandle") && decide (zm_11.1.2.2.1 ≤ 40))) = true := by decide +kernel
theorem zo_11 : zz_okM zt_hh zp_P zt_cl zt_tf zt_fd zt_nf zt_T zt_N zm_11 := zz_w_okM zw_11 zb_11 (zz_places goodWord zq_11 zg_11)
set_option maxRecDepth 100000 in
theorem zd_12_0 : ∀ r ∈ zl_12_0, decode zm_12.1.2.1 r.1 = .ok (r.2.1, r.2.2.1) := by decide +kernel
set_option maxRecDepth 100000 in
theorem zq_12_0 : (zl_12_0.flatMap (zz_wr zt_hh zp_P zt_cl zm_12.1.1.cls)).map some = ([1065, 1064, 551, 1680, 1681, 1679] : List Nat).map (fun i => lw_tbl[i]?) := by rfl
set_option maxRecDepth 100000 in
theorem zg_12_0 : (zl_12_0.flatMap (zz_wr zt_hh zp_P zt_cl zm_12.1.1.cls)).all goodWord = true := by decide +kernel
set_option maxRecDepth 100000 in
theorem zr_12_0 : (zl_12_0.flatMap (zz_wn zp_P zm_12.1.1.cls)).map some = ([] : List Nat).map (fun i => lw_tbl[i]?) := by rfl
set_option maxRecDepth 100000 in
theorem zs_12_0 : (zl_12_0.flatMap (zz_wn zp_P zm_12.1.1.cls)).all zz_isN = true := by decide +kernel
set_option maxRecDepth 100000 in
theorem zb_12_0 : zl_12_0.all (fun r => zz_wb zt_hh zp_P zt_cl zt_tf zt_fd zt_nf zm_12.1.1.cls zm_12.1.1.name r) = true := by decide +kernel
set_option maxRecDepth 100000 in
theorem zy_12_0 : zl_12_0.all (fun r => zz_tb zt_hh zp_P zm_12 r) = true := by decide +kernel
theorem zw_12 : zz_okW zt_hh zp_P zt_cl zt_tf zt_fd zt_nf zt_T zt_N zm_12 := List.forall_mem_cons.mpr ⟨(zz_w_okL zd_12_0 zb_12_0 (zz_places goodWord zq_12_0 zg_12_0) (zz_places zz_isN zr_12_0 zs_12_0) zy_12_0), (fun _ h => absurd h List.not_mem_nil)⟩
set_option maxRecDepth 100000 in
theorem zq_12 : [zz_cw zt_hh zm_12, Cond.initialized zm_12.1.1.cls].map some = ([1678, 216] : List Nat).map (fun i => lw_tbl[i]?) := by rfl
set_option maxRecDepth 100000 in
theorem zg_12 : [zz_cw zt_hh zm_12, Cond.initialized zm_12.1.1.cls].all goodWord = true := by decide +kernel
set_option maxRecDepth 100000 in
theorem zb_12 : (plainName zm_12.1.1.cls && (decide (zm_12.1.1.cls ≠ "java/lang/invoke/MethodHandle" ∧ zm_12.1.1.cls ≠ "java/lang/invoke/VarHandle") && decide (zm_12.1.2.2.1 ≤ 40))) = true := by decide +kernel
theorem zo_12 : zz_okM zt_hh zp_P zt_cl zt_tf zt_fd zt_nf zt_T zt_N zm_12 := zz_w_okM zw_12 zb_12 (zz_places goodWord zq_12 zg_12)
set_option maxRecDepth 100000 in
theorem zd_13_0 : ∀ r ∈ zl_13_0, decode zm_13.1.2.1 r.1 = .ok (r.2.1, r.2.2.1) := by decide +kernel
set_option maxRecDepth 100000 in
theorem zq_13_0 : (zl_13_0.flatMap (zz_wr zt_hh zp_P zt_cl zm_13.1.1.cls)).map some = ([1065, 1064, 551, 1659, 1660, 1658, 551, 1689, 1690, 1688] : List Nat).map (fun i => lw_tbl[i]?) := by rfl
set_option maxRecDepth 100000 in
theorem zg_13_0 : (zl_13_0.flatMap (zz_wr zt_hh zp_P zt_cl zm_13.1.1.cls)).all goodWord = true := by decide +kernel
set_option maxRecDepth 100000 in
theorem zr_13_0 : (zl_13_0.flatMap (zz_wn zp_P zm_13.1.1.cls)).map some = ([] : List Nat).map (fun i => lw_tbl[i]?) := by rfl
set_option maxRecDepth 100000 in
theorem zs_13_0 : (zl_13_0.flatMap (zz_wn zp_P zm_13.1.1.cls)).all zz_isN = true := by decide +kernel
set_option maxRecDepth 100000 in
theorem zb_13_0 : zl_13_0.all (fun r => zz_wb zt_hh zp_P zt_cl zt_tf zt_fd zt_nf zm_13.1.1.cls zm_13.1.1.name r) = true := by decide +kernel
set_option maxRecDepth 100000 in
theorem zy_13_0 : zl_13_0.all (fun r => zz_tb zt_hh zp_P zm_13 r) = true := by decide +kernel
theorem zw_13 : zz_okW zt_hh zp_P zt_cl zt_tf zt_fd zt_nf zt_T zt_N zm_13 := List.forall_mem_cons.mpr ⟨(zz_w_okL zd_13_0 zb_13_0 (zz_places goodWord zq_13_0 zg_13_0) (zz_places zz_isN zr_13_0 zs_13_0) zy_13_0), (fun _ h => absurd h List.not_mem_nil)⟩
set_option maxRecDepth 100000 in
theorem zq_13 : [zz_cw zt_hh zm_13, Cond.initialized zm_13.1.1.cls].map some = ([1687, 216] : List Nat).map (fun i => lw_tbl[i]?) := by rfl
set_option maxRecDepth 100000 in
theorem zg_13 : [zz_cw zt_hh zm_13, Cond.initialized zm_13.1.1.cls].all goodWord = true := by decide +kernel
set_option maxRecDepth 100000 in
theorem zb_13 : (plainName zm_13.1.1.cls && (decide (zm_13.1.1.cls ≠ "java/lang/invoke/MethodHandle" ∧ zm_13.1.1.cls ≠ "java/lang/invoke/VarHandle") && decide (zm_13.1.2.2.1 ≤ 40))) = true := by decide +kernel
theorem zo_13 : zz_okM zt_hh zp_P zt_cl zt_tf zt_fd zt_nf zt_T zt_N zm_13 := zz_w_okM zw_13 zb_13 (zz_places goodWord zq_13 zg_13)
set_option maxRecDepth 100000 in
theorem zd_14_0 : ∀ r ∈ zl_14_0, decode zm_14.1.2.1 r.1 = .ok (r.2.1, r.2.2.1) := by decide +kernel
set_option maxRecDepth 100000 in
theorem zq_14_0 : (zl_14_0.flatMap (zz_wr zt_hh zp_P zt_cl zm_14.1.1.cls)).map some = ([1065, 1064, 551, 1659, 1660, 1658] : List Nat).map (fun i => lw_tbl[i]?) := by rfl
set_option maxRecDepth 100000 in
theorem zg_14_0 : (zl_14_0.flatMap (zz_wr zt_hh zp_P zt_cl zm_14.1.1.cls)).all goodWord = true := by decide +kernel
set_option maxRecDepth 100000 in
theorem zr_14_0 : (zl_14_0.flatMap (zz_wn zp_P zm_14.1.1.cls)).map some = ([] : List Nat).map (fun i => lw_tbl[i]?) := by rfl
set_option maxRecDepth 100000 in
theorem zs_14_0 : (zl_14_0.flatMap (zz_wn zp_P zm_14.1.1.cls)).all zz_isN = true := by decide +kernel
set_option maxRecDepth 100000 in
theorem zb_14_0 : zl_14_0.all (fun r => zz_wb zt_hh zp_P zt_cl zt_tf zt_fd zt_nf zm_14.1.1.cls zm_14.1.1.name r) = true := by decide +kernel
set_option maxRecDepth 100000 in
theorem zy_14_0 : zl_14_0.all (fun r => zz_tb zt_hh zp_P zm_14 r) = true := by decide +kernel
theorem zw_14 : zz_okW zt_hh zp_P zt_cl zt_tf zt_fd zt_nf zt_T zt_N zm_14 := List.forall_mem_cons.mpr ⟨(zz_w_okL zd_14_0 zb_14_0 (zz_places goodWord zq_14_0 zg_14_0) (zz_places zz_isN zr_14_0 zs_14_0) zy_14_0), (fun _ h => absurd h List.not_mem_nil)⟩
set_option maxRecDepth 100000 in
theorem zq_14 : [zz_cw zt_hh zm_14, Cond.initialized zm_14.1.1.cls].map some = ([1695, 216] : List Nat).map (fun i => lw_tbl[i]?) := by rfl
set_option maxRecDepth 100000 in
theorem zg_14 : [zz_cw zt_hh zm_14, Cond.initialized zm_14.1.1.cls].all goodWord = true := by decide +kernel
set_option maxRecDepth 100000 in
theorem zb_14 : (plainName zm_14.1.1.cls && (decide (zm_14.1.1.cls ≠ "java/lang/invoke/MethodHandle" ∧ zm_14.1.1.cls ≠ "java/lang/invoke/VarHandle") && decide (zm_14.1.2.2.1 ≤ 40))) = true := by decide +kernel
theorem zo_14 : zz_okM zt_hh zp_P zt_cl zt_tf zt_fd zt_nf zt_T zt_N zm_14 := zz_w_okM zw_14 zb_14 (zz_places goodWord zq_14 zg_14)
set_option maxRecDepth 100000 in
theorem zd_15_0 : ∀ r ∈ zl_15_0, decode zm_15.1.2.1 r.1 = .ok (r.2.1, r.2.2.1) := by decide +kernel
set_option maxRecDepth 100000 in
theorem zq_15_0 : (zl_15_0.flatMap (zz_wr zt_hh zp_P zt_cl zm_15.1.1.cls)).map some = ([1065, 1064, 551, 1659, 1660, 1658, 1664, 111, 1662, 554, 1125, 1126, 1700, 554, 1125, 1126, 1700, 1210, 1701, 554] : List Nat).map (fun i => lw_tbl[i]?) := by rfl
set_option maxRecDepth 100000 in
theorem zg_15_0 : (zl_15_0.flatMap (zz_wr zt_hh zp_P zt_cl zm_15.1.1.cls)).all goodWord = true := by decide +kernel
set_option maxRecDepth 100000 in
theorem zr_15_0 : (zl_15_0.flatMap (zz_wn zp_P zm_15.1.1.cls)).map some = ([] : List Nat).map (fun i => lw_tbl[i]?) := by rfl
set_option maxRecDepth 100000 in
theorem zs_15_0 : (zl_15_0.flatMap (zz_wn zp_P zm_15.1.1.cls)).all zz_isN = true := by decide +kernel
set_option maxRecDepth 100000 in
theorem zb_15_0 : zl_15_0.all (fun r => zz_wb zt_hh zp_P zt_cl zt_tf zt_fd zt_nf zm_15.1.1.cls zm_15.1.1.name r) = true := by decide +kernel
set_option maxRecDepth 100000 in
theorem zd_15_1 : ∀ r ∈ zl_15_1, decode zm_15.1.2.1 r.1 = .ok (r.2.1, r.2.2.1) := by decide +kernel
set_option maxRecDepth 100000 in
theorem zq_15_1 : (zl_15_1.flatMap (zz_wr zt_hh zp_P zt_cl zm_15.1.1.cls)).map some = ([1223, 1224, 1702, 1210, 1701, 554, 1125, 1126, 1700, 1210, 1701] : List Nat).map (fun i => lw_tbl[i]?) := by rfl
set_option maxRecDepth 100000 in
theorem zg_15_1 : (zl_15_1.flatMap (zz_wr zt_hh zp_P zt_cl zm_15.1.1.cls)).all goodWord = true := by decide +kernel
set_option maxRecDepth 100000 in
theorem zr_15_1 : (zl_15_1.flatMap (zz_wn zp_P zm_15.1.1.cls)).map some = ([] : List Nat).map (fun i => lw_tbl[i]?) := by rfl
set_option maxRecDepth 100000 in
theorem zs_15_1 : (zl_15_1.flatMap (zz_wn zp_P zm_15.1.1.cls)).all zz_isN = true := by decide +kernel
set_option maxRecDepth 100000 in
theorem zb_15_1 : zl_15_1.all (fun r => zz_wb zt_hh zp_P zt_cl zt_tf zt_fd zt_nf zm_15.1.1.cls zm_15.1.1.name r) = true := by decide +kernel
set_option maxRecDepth 100000 in
theorem zy_15_0 : zl_15_0.all (fun r => zz_tb zt_hh zp_P zm_15 r) = true := by decide +kernel
set_option maxRecDepth 100000 in
theorem zy_15_1 : zl_15_1.all (fun r => zz_tb zt_hh zp_P zm_15 r) = true := by decide +kernel
theorem zw_15 : zz_okW zt_hh zp_P zt_cl zt_tf zt_fd zt_nf zt_T zt_N zm_15 := List.forall_mem_cons.mpr ⟨(zz_w_okL zd_15_0 zb_15_0 (zz_places goodWord zq_15_0 zg_15_0) (zz_places zz_isN zr_15_0 zs_15_0) zy_15_0), List.forall_mem_cons.mpr ⟨(zz_w_okL zd_15_1 zb_15_1 (zz_places goodWord zq_15_1 zg_15_1) (zz_places zz_isN zr_15_1 zs_15_1) zy_15_1), (fun _ h => absurd h List.not_mem_nil)⟩⟩
set_option maxRecDepth 100000 in
theorem zq_15 : [zz_cw zt_hh zm_15, Cond.initialized zm_15.1.1.cls].map some = ([1699, 216] : List Nat).map (fun i => lw_tbl[i]?) := by rfl
set_option maxRecDepth 100000 in
theorem zg_15 : [zz_cw zt_hh zm_15, Cond.initialized zm_15.1.1.cls].all goodWord = true := by decide +kernel
set_option maxRecDepth 100000 in
theorem zb_15 : (plainName zm_15.1.1.cls && (decide (zm_15.1.1.cls ≠ "java/lang/invoke/MethodHandle" ∧ zm_15.1.1.cls ≠ "java/lang/invoke/VarHandle") && decide (zm_15.1.2.2.1 ≤ 40))) = true := by decide +kernel
theorem zo_15 : zz_okM zt_hh zp_P zt_cl zt_tf zt_fd zt_nf zt_T zt_N zm_15 := zz_w_okM zw_15 zb_15 (zz_places goodWord zq_15 zg_15)
set_option maxRecDepth 100000 in
theorem zd_16_0 : ∀ r ∈ zl_16_0, decode zm_16.1.2.1 r.1 = .ok (r.2.1, r.2.2.1) := by decide +kernel
set_option maxRecDepth 100000 in
theorem zq_16_0 : (zl_16_0.flatMap (zz_wr zt_hh zp_P zt_cl zm_16.1.1.cls)).map some = ([1065, 1064, 551, 1659, 1660, 1658, 1664, 111, 1662, 1210, 1701, 1228, 1707, 554, 1125, 1126, 1700, 554, 1223, 1224, 1702, 1210, 1701] : List Nat).map (fun i => lw_tbl[i]?) := by rfl
set_option maxRecDepth 100000 in
theorem zg_16_0 : (zl_16_0.flatMap (zz_wr zt_hh zp_P zt_cl zm_16.1.1.cls)).all goodWord = true := by decide +kernel
set_option maxRecDepth 100000 in
theorem zr_16_0 : (zl_16_0.flatMap (zz_wn zp_P zm_16.1.1.cls)).map some = ([] : List Nat).map (fun i => lw_tbl[i]?) := by rfl
set_option maxRecDepth 100000 in
theorem zs_16_0 : (zl_16_0.flatMap (zz_wn zp_P zm_16.1.1.cls)).all zz_isN = true := by decide +kernel
set_option maxRecDepth 100000 in
theorem zb_16_0 : zl_16_0.all (fun r => zz_wb zt_hh zp_P zt_cl zt_tf zt_fd zt_nf zm_16.1.1.cls zm_16.1.1.name r) = true := by decide +kernel
set_option maxRecDepth 100000 in
theorem zd_16_1 : ∀ r ∈ zl_16_1, decode zm_16.1.2.1 r.1 = .ok (r.2.1, r.2.2.1) := by decide +kernel
set_option maxRecDepth 100000 in
theorem zq_16_1 : (zl_16_1.flatMap (zz_wr zt_hh zp_P zt_cl zm_16.1.1.cls)).map some = ([1228, 1707, 1210, 1701, 554, 1125, 1126, 1700, 554, 1248, 1249, 1708] : List Nat).map (fun i => lw_tbl[i]?) := by rfl
set_option maxRecDepth 100000 in
theorem zg_16_1 : (zl_16_1.flatMap (zz_wr zt_hh zp_P zt_cl zm_16.1.1.cls)).all goodWord = true := by decide +kernel
set_option maxRecDepth 100000 in
theorem zr_16_1 : (zl_16_1.flatMap (zz_wn zp_P zm_16.1.1.cls)).map some = ([] : List Nat).map (fun i => lw_tbl[i]?) := by rfl
set_option maxRecDepth 100000 in
theorem zs_16_1 : (zl_16_1.flatMap (zz_wn zp_P zm_16.1.1.cls)).all zz_isN = true := by decide +kernel
set_option maxRecDepth 100000 in
theorem zb_16_1 : zl_16_1.all (fun r => zz_wb zt_hh zp_P zt_cl zt_tf zt_fd zt_nf zm_16.1.1.cls zm_16.1.1.name r) = true := by decide +kernel
set_option maxRecDepth 100000 in
theorem zy_16_0 : zl_16_0.all (fun r => zz_tb zt_hh zp_P zm_16 r) = true := by decide +kernel
set_option maxRecDepth 100000 in
theorem zy_16_1 : zl_16_1.all (fun r => zz_tb zt_hh zp_P zm_16 r) = true := by decide +kernel
theorem zw_16 : zz_okW zt_hh zp_P zt_cl zt_tf zt_fd zt_nf zt_T zt_N zm_16 := List.forall_mem_cons.mpr ⟨(zz_w_okL zd_16_0 zb_16_0 (zz_places goodWord zq_16_0 zg_16_0) (zz_places zz_isN zr_16_0 zs_16_0) zy_16_0), List.forall_mem_cons.mpr ⟨(zz_w_okL zd_16_1 zb_16_1 (zz_places goodWord zq_16_1 zg_16_1) (zz_places zz_isN zr_16_1 zs_16_1) zy_16_1), (fun _ h => absurd h List.not_mem_nil)⟩⟩
set_option maxRecDepth 100000 in
theorem zq_16 : [zz_cw zt_hh zm_16, Cond.initialized zm_16.1.1.cls].map some = ([1706, 216] : List Nat).map (fun i => lw_tbl[i]?) := by rfl
set_option maxRecDepth 100000 in
theorem zg_16 : [zz_cw zt_hh zm_16, Cond.initialized zm_16.1.1.cls].all goodWord = true := by decide +kernel
set_option maxRecDepth 100000 in
theorem zb_16 : (plainName zm_16.1.1.cls && (decide (zm_16.1.1.cls ≠ "java/lang/invoke/MethodHandle" ∧ zm_16.1.1.cls ≠ "java/lang/invoke/VarHandle") && decide (zm_16.1.2.2.1 ≤ 40))) = true := by decide +kernel
theorem zo_16 : zz_okM zt_hh zp_P zt_cl zt_tf zt_fd zt_nf zt_T zt_N zm_16 := zz_w_okM zw_16 zb_16 (zz_places goodWord zq_16 zg_16)
set_option maxRecDepth 100000 in
theorem zd_17_0 : ∀ r ∈ zl_17_0, decode zm_17.1.2.1 r.1 = .ok (r.2.1, r.2.2.1) := by decide +kernel
set_option maxRecDepth 100000 in
theorem zq_17_0 : (zl_17_0.flatMap (zz_wr zt_hh zp_P zt_cl zm_17.1.1.cls)).map some = ([1065, 1064, 1065, 1064, 551, 1714, 1715, 1713] : List Nat).map (fun i => lw_tbl[i]?) := by rfl
set_option maxRecDepth 100000 in
theorem zg_17_0 : (zl_17_0.flatMap (zz_wr zt_hh zp_P zt_cl zm_17.1.1.cls)).all goodWord = true := by decide +kernel
set_option maxRecDepth 100000 in
theorem zr_17_0 : (zl_17_0.flatMap (zz_wn zp_P zm_17.1.1.cls)).map some = ([] : List Nat).map (fun i => lw_tbl[i]?) := by rfl
set_option maxRecDepth 100000 in
theorem zs_17_0 : (zl_17_0.flatMap (zz_wn zp_P zm_17.1.1.cls)).all zz_isN = true := by decide +kernel
set_option maxRecDepth 100000 in
theorem zb_17_0 : zl_17_0.all (fun r => zz_wb zt_hh zp_P zt_cl zt_tf zt_fd zt_nf zm_17.1.1.cls zm_17.1.1.name r) = true := by decide +kernel
set_option maxRecDepth 100000 in
theorem zy_17_0 : zl_17_0.all (fun r => zz_tb zt_hh zp_P zm_17 r) = true := by decide +kernel
theorem zw_17 : zz_okW zt_hh zp_P zt_cl zt_tf zt_fd zt_nf zt_T zt_N zm_17 := List.forall_mem_cons.mpr ⟨(zz_w_okL zd_17_0 zb_17_0 (zz_places goodWord zq_17_0 zg_17_0) (zz_places zz_isN zr_17_0 zs_17_0) zy_17_0), (fun _ h => absurd h List.not_mem_nil)⟩
set_option maxRecDepth 100000 in
theorem zq_17 : [zz_cw zt_hh zm_17, Cond.initialized zm_17.1.1.cls].map some = ([1712, 216] : List Nat).map (fun i => lw_tbl[i]?) := by rfl
set_option maxRecDepth 100000 in
theorem zg_17 : [zz_cw zt_hh zm_17, Cond.initialized zm_17.1.1.cls].all goodWord = true := by decide +kernel
set_option maxRecDepth 100000 in
theorem zb_17 : (plainName zm_17.1.1.cls && (decide (zm_17.1.1.cls ≠ "java/lang/invoke/MethodHandle" ∧ zm_17.1.1.cls ≠ "java/lang/invoke/VarHandle") && decide (zm_17.1.2.2.1 ≤ 40))) = true := by decide +kernel
theorem zo_17 : zz_okM zt_hh zp_P zt_cl zt_tf zt_fd zt_nf zt_T zt_N zm_17 := zz_w_okM zw_17 zb_17 (zz_places goodWord zq_17 zg_17)
set_option maxRecDepth 100000 in
theorem zd_18_0 : ∀ r ∈ zl_18_0, decode zm_18.1.2.1 r.1 = .ok (r.2.1, r.2.2.1) := by decide +kernel
set_option maxRecDepth 100000 in
theorem zq_18_0 : (zl_18_0.flatMap (zz_wr zt_hh zp_P zt_cl zm_18.1.1.cls)).map some = ([553, 1723, 112, 1721, 552, 553, 552, 553, 365, 366, 220, 368, 552, 553, 551, 1726, 1727, 1725, 553, 553, 553] : List Nat).map (fun i => lw_tbl[i]?) := by rfl
set_option maxRecDepth 100000 in
theorem zg_18_0 : (zl_18_0.flatMap (zz_wr zt_hh zp_P zt_cl zm_18.1.1.cls)).all goodWord = true := by decide +kernel
set_option maxRecDepth 100000 in
theorem zr_18_0 : (zl_18_0.flatMap (zz_wn zp_P zm_18.1.1.cls)).map some = ([367] : List Nat).map (fun i => lw_tbl[i]?) := by rfl
set_option maxRecDepth 100000 in
theorem zs_18_0 : (zl_18_0.flatMap (zz_wn zp_P zm_18.1.1.cls)).all zz_isN = true := by decide +kernel
set_option maxRecDepth 100000 in
theorem zb_18_0 : zl_18_0.all (fun r => zz_wb zt_hh zp_P zt_cl zt_tf zt_fd zt_nf zm_18.1.1.cls zm_18.1.1.name r) = true := by decide +kernel
set_option maxRecDepth 100000 in
theorem zy_18_0 : zl_18_0.all (fun r => zz_tb zt_hh zp_P zm_18 r) = true := by decide +kernel
theorem zw_18 : zz_okW zt_hh zp_P zt_cl zt_tf zt_fd zt_nf zt_T zt_N zm_18 := List.forall_mem_cons.mpr ⟨(zz_w_okL zd_18_0 zb_18_0 (zz_places goodWord zq_18_0 zg_18_0) (zz_places zz_isN zr_18_0 zs_18_0) zy_18_0), (fun _ h => absurd h List.not_mem_nil)⟩
set_option maxRecDepth 100000 in
theorem zq_18 : [zz_cw zt_hh zm_18, Cond.initialized zm_18.1.1.cls].map some = ([1720, 216] : List Nat).map (fun i => lw_tbl[i]?) := by rfl
set_option maxRecDepth 100000 in
theorem zg_18 : [zz_cw zt_hh zm_18, Cond.initialized zm_18.1.1.cls].all goodWord = true := by decide +kernel
set_option maxRecDepth 100000 in
theorem zb_18 : (plainName zm_18.1.1.cls && (decide (zm_18.1.1.cls ≠ "java/lang/invoke/MethodHandle" ∧ zm_18.1.1.cls ≠ "java/lang/invoke/VarHandle") && decide (zm_18.1.2.2.1 ≤ 40))) = true := by decide +kernel
theorem zo_18 : zz_okM zt_hh zp_P zt_cl zt_tf zt_fd zt_nf zt_T zt_N zm_18 := zz_w_okM zw_18 zb_18 (zz_places goodWord zq_18 zg_18)
set_option maxRecDepth 100000 in
theorem zd_19_0 : ∀ r ∈ zl_19_0, decode zm_19.1.2.1 r.1 = .ok (r.2.1, r.2.2.1) := by decide +kernel
set_option maxRecDepth 100000 in
theorem zq_19_0 : (zl_19_0.flatMap (zz_wr zt_hh zp_P zt_cl zm_19.1.1.cls)).map some = ([553, 553, 553, 552, 553, 552, 553, 551, 551] : List Nat).map (fun i => lw_tbl[i]?) := by rfl
set_option maxRecDepth 100000 in
theorem zg_19_0 : (zl_19_0.flatMap (zz_wr zt_hh zp_P zt_cl zm_19.1.1.cls)).all goodWord = true := by decide +kernel
set_option maxRecDepth 100000 in
theorem zr_19_0 : (zl_19_0.flatMap (zz_wn zp_P zm_19.1.1.cls)).map some = ([] : List Nat).map (fun i => lw_tbl[i]?) := by rfl
set_option maxRecDepth 100000 in
theorem zs_19_0 : (zl_19_0.flatMap (zz_wn zp_P zm_19.1.1.cls)).all zz_isN = true := by decide +kernel
set_option maxRecDepth 100000 in
theorem zb_19_0 : zl_19_0.all (fun r => zz_wb zt_hh zp_P zt_cl zt_tf zt_fd zt_nf zm_19.1.1.cls zm_19.1.1.name r) = true := by decide +kernel
set_option maxRecDepth 100000 in
theorem zy_19_0 : zl_19_0.all (fun r => zz_tb zt_hh zp_P zm_19 r) = true := by decide +kernel
theorem zw_19 : zz_okW zt_hh zp_P zt_cl zt_tf zt_fd zt_nf zt_T zt_N zm_19 := List.forall_mem_cons.mpr ⟨(zz_w_okL zd_19_0 zb_19_0 (zz_places goodWord zq_19_0 zg_19_0) (zz_places zz_isN zr_19_0 zs_19_0) zy_19_0), (fun _ h => absurd h List.not_mem_nil)⟩
set_option maxRecDepth 100000 in
theorem zq_19 : [zz_cw zt_hh zm_19, Cond.initialized zm_19.1.1.cls].map some = ([1733, 216] : List Nat).map (fun i => lw_tbl[i]?) := by rfl
set_option maxRecDepth 100000 in
theorem zg_19 : [zz_cw zt_hh zm_19, Cond.initialized zm_19.1.1.cls].all goodWord = true := by decide +kernel
set_option maxRecDepth 100000 in
theorem zb_19 : (plainName zm_19.1.1.cls && (decide (zm_19.1.1.cls ≠ "java/lang/invoke/MethodHandle" ∧ zm_19.1.1.cls ≠ "java/lang/invoke/VarHandle") && decide (zm_19.1.2.2.1 ≤ 40))) = true := by decide +kernel
theorem zo_19 : zz_okM zt_hh zp_P zt_cl zt_tf zt_fd zt_nf zt_T zt_N zm_19 := zz_w_okM zw_19 zb_19 (zz_places goodWord zq_19 zg_19)
set_option maxRecDepth 100000 in
theorem zd_20_0 : ∀ r ∈ zl_20_0, decode zm_20.1.2.1 r.1 = .ok (r.2.1, r.2.2.1) := by decide +kernel
set_option maxRecDepth 100000 in
theorem zq_20_0 : (zl_20_0.flatMap (zz_wr zt_hh zp_P zt_cl zm_20.1.1.cls)).map some = ([551, 1739, 1740, 1738] : List Nat).map (fun i => lw_tbl[i]?) := by rfl
set_option maxRecDepth 100000 in
theorem zg_20_0 : (zl_20_0.flatMap (zz_wr zt_hh zp_P zt_cl zm_20.1.1.cls)).all goodWord = true := by decide +kernel
set_option maxRecDepth 100000 in
theorem zr_20_0 : (zl_20_0.flatMap (zz_wn zp_P zm_20.1.1.cls)).map some = ([] : List Nat).map (fun i => lw_tbl[i]?) := by rfl
set_option maxRecDepth 100000 in
theorem zs_20_0 : (zl_20_0.flatMap (zz_wn zp_P zm_20.1.1.cls)).all zz_isN = true := by decide +kernel
set_option maxRecDepth 100000 in
theorem zb_20_0 : zl_20_0.all (fun r => zz_wb zt_hh zp_P zt_cl zt_tf zt_fd zt_nf zm_20.1.1.cls zm_20.1.1.name r) = true := by decide +kernel
set_option maxRecDepth 100000 in
theorem zy_20_0 : zl_20_0.all (fun r => zz_tb zt_hh zp_P zm_20 r) = true := by decide +kernel
theorem zw_20 : zz_okW zt_hh zp_P zt_cl zt_tf zt_fd zt_nf zt_T zt_N zm_20 := List.forall_mem_cons.mpr ⟨(zz_w_okL zd_20_0 zb_20_0 (zz_places goodWord zq_20_0 zg_20_0) (zz_places zz_isN zr_20_0 zs_20_0) zy_20_0), (fun _ h => absurd h List.not_mem_nil)⟩
set_option maxRecDepth 100000 in
theorem zq_20 : [zz_cw zt_hh zm_20, Cond.initialized zm_20.1.1.cls].map some = ([1737, 216] : List Nat).map (fun i => lw_tbl[i]?) := by rfl
set_option maxRecDepth 100000 in
theorem zg_20 : [zz_cw zt_hh zm_20, Cond.initialized zm_20.1.1.cls].all goodWord = true := by decide +kernel
set_option maxRecDepth 100000 in
theorem zb_20 : (plainName zm_20.1.1.cls && (decide (zm_20.1.1.cls ≠ "java/lang/invoke/MethodHandle" ∧ zm_20.1.1.cls ≠ "java/lang/invoke/VarHandle") && decide (zm_20.1.2.2.1 ≤ 40))) = true := by decide +kernel
theorem zo_20 : zz_okM zt_hh zp_P zt_cl zt_tf zt_fd zt_nf zt_T zt_N zm_20 := zz_w_okM zw_20 zb_20 (zz_places goodWord zq_20 zg_20)
set_option maxRecDepth 100000 in
theorem zd_21_0 : ∀ r ∈ zl_21_0, decode zm_21.1.2.1 r.1 = .ok (r.2.1, r.2.2.1) := by decide +kernel
set_option maxRecDepth 100000 in
theorem zq_21_0 : (zl_21_0.flatMap (zz_wr zt_hh zp_P zt_cl zm_21.1.1.cls)).map some = ([] : List Nat).map (fun i => lw_tbl[i]?) := by rfl
set_option maxRecDepth 100000 in
theorem zg_21_0 : (zl_21_0.flatMap (zz_wr zt_hh zp_P zt_cl zm_21.1.1.cls)).all goodWord = true := by decide +kernel
set_option maxRecDepth 100000 in
theorem zr_21_0 : (zl_21_0.flatMap (zz_wn zp_P zm_21.1.1.cls)).map some = ([] : List Nat).map (fun i => lw_tbl[i]?) := by rfl
set_option maxRecDepth 100000 in
theorem zs_21_0 : (zl_21_0.flatMap (zz_wn zp_P zm_21.1.1.cls)).all zz_isN = true := by decide +kernel
set_option maxRecDepth 100000 in
theorem zb_21_0 : zl_21_0.all (fun r => zz_wb zt_hh zp_P zt_cl zt_tf zt_fd zt_nf zm_21.1.1.cls zm_21.1.1.name r) = true := by decide +kernel
set_option maxRecDepth 100000 in
theorem zy_21_0 : zl_21_0.all (fun r => zz_tb zt_hh zp_P zm_21 r) = true := by decide +kernel
theorem zw_21 : zz_okW zt_hh zp_P zt_cl zt_tf zt_fd zt_nf zt_T zt_N zm_21 := List.forall_mem_cons.mpr ⟨(zz_w_okL zd_21_0 zb_21_0 (zz_places goodWord zq_21_0 zg_21_0) (zz_places zz_isN zr_21_0 zs_21_0) zy_21_0), (fun _ h => absurd h List.not_mem_nil)⟩
set_option maxRecDepth 100000 in
theorem zq_21 : [zz_cw zt_hh zm_21, Cond.initialized zm_21.1.1.cls].map some = ([1066, 216] : List Nat).map (fun i => lw_tbl[i]?) := by rfl
set_option maxRecDepth 100000 in
theorem zg_21 : [zz_cw zt_hh zm_21, Cond.initialized zm_21.1.1.cls].all goodWord = true := by decide +kernel
set_option maxRecDepth 100000 in
theorem zb_21 : (plainName zm_21.1.1.cls && (decide (zm_21.1.1.cls ≠ "java/lang/invoke/MethodHandle" ∧ zm_21.1.1.cls ≠ "java/lang/invoke/VarHandle") && decide (zm_21.1.2.2.1 ≤ 40))) = true := by decide +kernel
theorem zo_21 : zz_okM zt_hh zp_P zt_cl zt_tf zt_fd zt_nf zt_T zt_N zm_21 := zz_w_okM zw_21 zb_21 (zz_places goodWord zq_21 zg_21)
set_option maxRecDepth 100000 in
theorem zd_22_0 : ∀ r ∈ zl_22_0, decode zm_22.1.2.1 r.1 = .ok (r.2.1, r.2.2.1) := by decide +kernel
set_option maxRecDepth 100000 in
theorem zq_22_0 : (zl_22_0.flatMap (zz_wr zt_hh zp_P zt_cl zm_22.1.1.cls)).map some = ([370, 249, 250, 371, 289, 373, 289, 374] : List Nat).map (fun i => lw_tbl[i]?) := by rfl
set_option maxRecDepth 100000 in
theorem zg_22_0 : (zl_22_0.flatMap (zz_wr zt_hh zp_P zt_cl zm_22.1.1.cls)).all goodWord = true := by decide +kernel
set_option maxRecDepth 100000 in
theorem zr_22_0 : (zl_22_0.flatMap (zz_wn zp_P zm_22.1.1.cls)).map some = ([372] : List Nat).map (fun i => lw_tbl[i]?) := by rfl
set_option maxRecDepth 100000 in
theorem zs_22_0 : (zl_22_0.flatMap (zz_wn zp_P zm_22.1.1.cls)).all zz_isN = true := by decide +kernel
set_option maxRecDepth 100000 in
theorem zb_22_0 : zl_22_0.all (fun r => zz_wb zt_hh zp_P zt_cl zt_tf zt_fd zt_nf zm_22.1.1.cls zm_22.1.1.name r) = true := by decide +kernel
set_option maxRecDepth 100000 in
theorem zy_22_0 : zl_22_0.all (fun r => zz_tb zt_hh zp_P zm_22 r) = true := by decide +kernel
theorem zw_22 : zz_okW zt_hh zp_P zt_cl zt_tf zt_fd zt_nf zt_T zt_N zm_22 := List.forall_mem_cons.mpr ⟨(zz_w_okL zd_22_0 zb_22_0 (zz_places goodWord zq_22_0 zg_22_0) (zz_places zz_isN zr_22_0 zs_22_0) zy_22_0), (fun _ h => absurd h List.not_mem_nil)⟩
set_option maxRecDepth 100000 in
theorem zq_22 : [zz_cw zt_hh zm_22, Cond.initialized zm_22.1.1.cls].map some = ([369, 220] : List Nat).map (fun i => lw_tbl[i]?) := by rfl
set_option maxRecDepth 100000 in
theorem zg_22 : [zz_cw zt_hh zm_22, Cond.initialized zm_22.1.1.cls].all goodWord = true := by decide +kernel
set_option maxRecDepth 100000 in
theorem zb_22 : (plainName zm_22.1.1.cls && (decide (zm_22.1.1.cls ≠ "java/lang/invoke/MethodHandle" ∧ zm_22.1.1.cls ≠ "java/lang/invoke/VarHandle") && decide (zm_22.1.2.2.1 ≤ 40))) = true := by decide +kernel
theorem zo_22 : zz_okM zt_hh zp_P zt_cl zt_tf zt_fd zt_nf zt_T zt_N zm_22 := zz_w_okM zw_22 zb_22 (zz_places goodWord zq_22 zg_22)
set_option maxRecDepth 100000 in
theorem zd_23_0 : ∀ r ∈ zl_23_0, decode zm_23.1.2.1 r.1 = .ok (r.2.1, r.2.2.1) := by decide +kernel
set_option maxRecDepth 100000 in
theorem zq_23_0 : (zl_23_0.flatMap (zz_wr zt_hh zp_P zt_cl zm_23.1.1.cls)).map some = ([374, 373] : List Nat).map (fun i => lw_tbl[i]?) := by rfl
set_option maxRecDepth 100000 in
theorem zg_23_0 : (zl_23_0.flatMap (zz_wr zt_hh zp_P zt_cl zm_23.1.1.cls)).all goodWord = true := by decide +kernel
set_option maxRecDepth 100000 in
theorem zr_23_0 : (zl_23_0.flatMap (zz_wn zp_P zm_23.1.1.cls)).map some = ([] : List Nat).map (fun i => lw_tbl[i]?) := by rfl
set_option maxRecDepth 100000 in
theorem zs_23_0 : (zl_23_0.flatMap (zz_wn zp_P zm_23.1.1.cls)).all zz_isN = true := by decide +kernel
set_option maxRecDepth 100000 in
theorem zb_23_0 : zl_23_0.all (fun r => zz_wb zt_hh zp_P zt_cl zt_tf zt_fd zt_nf zm_23.1.1.cls zm_23.1.1.name r) = true := by decide +kernel
set_option maxRecDepth 100000 in
theorem zy_23_0 : zl_23_0.all (fun r => zz_tb zt_hh zp_P zm_23 r) = true := by decide +kernel
theorem zw_23 : zz_okW zt_hh zp_P zt_cl zt_tf zt_fd zt_nf zt_T zt_N zm_23 := List.forall_mem_cons.mpr ⟨(zz_w_okL zd_23_0 zb_23_0 (zz_places goodWord zq_23_0 zg_23_0) (zz_places zz_isN zr_23_0 zs_23_0) zy_23_0), (fun _ h => absurd h List.not_mem_nil)⟩
set_option maxRecDepth 100000 in
theorem zq_23 : [zz_cw zt_hh zm_23, Cond.initialized zm_23.1.1.cls].map some = ([1661, 220] : List Nat).map (fun i => lw_tbl[i]?) := by rfl
set_option maxRecDepth 100000 in
theorem zg_23 : [zz_cw zt_hh zm_23, Cond.initialized zm_23.1.1.cls].all goodWord = true := by decide +kernel
set_option maxRecDepth 100000 in
theorem zb_23 : (plainName zm_23.1.1.cls && (decide (zm_23.1.1.cls ≠ "java/lang/invoke/MethodHandle" ∧ zm_23.1.1.cls ≠ "java/lang/invoke/VarHandle") && decide (zm_23.1.2.2.1 ≤ 40))) = true := by decide +kernel
theorem zo_23 : zz_okM zt_hh zp_P zt_cl zt_tf zt_fd zt_nf zt_T zt_N zm_23 := zz_w_okM zw_23 zb_23 (zz_places goodWord zq_23 zg_23)
set_option maxRecDepth 100000 in
theorem zd_24_0 : ∀ r ∈ zl_24_0, decode zm_24.1.2.1 r.1 = .ok (r.2.1, r.2.2.1) := by decide +kernel
set_option maxRecDepth 100000 in
theorem zq_24_0 : (zl_24_0.flatMap (zz_wr zt_hh zp_P zt_cl zm_24.1.1.cls)).map some = ([374, 1615, 109, 1613, 1615, 109, 1613] : List Nat).map (fun i => lw_tbl[i]?) := by rfl
set_option maxRecDepth 100000 in
theorem zg_24_0 : (zl_24_0.flatMap (zz_wr zt_hh zp_P zt_cl zm_24.1.1.cls)).all goodWord = true := by decide +kernel
set_option maxRecDepth 100000 in
theorem zr_24_0 : (zl_24_0.flatMap (zz_wn zp_P zm_24.1.1.cls)).map some = ([] : List Nat).map (fun i => lw_tbl[i]?) := by rfl
set_option maxRecDepth 100000 in
theorem zs_24_0 : (zl_24_0.flatMap (zz_wn zp_P zm_24.1.1.cls)).all zz_isN = true := by decide +kernel
set_option maxRecDepth 100000 in
theorem zb_24_0 : zl_24_0.all (fun r => zz_wb zt_hh zp_P zt_cl zt_tf zt_fd zt_nf zm_24.1.1.cls zm_24.1.1.name r) = true := by decide +kernel
set_option maxRecDepth 100000 in
theorem zy_24_0 : zl_24_0.all (fun r => zz_tb zt_hh zp_P zm_24 r) = true := by decide +kernel
theorem zw_24 : zz_okW zt_hh zp_P zt_cl zt_tf zt_fd zt_nf zt_T zt_N zm_24 := List.forall_mem_cons.mpr ⟨(zz_w_okL zd_24_0 zb_24_0 (zz_places goodWord zq_24_0 zg_24_0) (zz_places zz_isN zr_24_0 zs_24_0) zy_24_0), (fun _ h => absurd h List.not_mem_nil)⟩
set_option maxRecDepth 100000 in
theorem zq_24 : [zz_cw zt_hh zm_24, Cond.initialized zm_24.1.1.cls].map some = ([1674, 220] : List Nat).map (fun i => lw_tbl[i]?) := by rfl
set_option maxRecDepth 100000 in
theorem zg_24 : [zz_cw zt_hh zm_24, Cond.initialized zm_24.1.1.cls].all goodWord = true := by decide +kernel
set_option maxRecDepth 100000 in
theorem zb_24 : (plainName zm_24.1.1.cls && (decide (zm_24.1.1.cls ≠ "java/lang/invoke/MethodHandle" ∧ zm_24.1.1.cls ≠ "java/lang/invoke/VarHandle") && decide (zm_24.1.2.2.1 ≤ 40))) = true := by decide +kernel
theorem zo_24 : zz_okM zt_hh zp_P zt_cl zt_tf zt_fd zt_nf zt_T zt_N zm_24 := zz_w_okM zw_24 zb_24 (zz_places goodWord zq_24 zg_24)
set_option maxRecDepth 100000 in
theorem zd_25_0 : ∀ r ∈ zl_25_0, decode zm_25.1.2.1 r.1 = .ok (r.2.1, r.2.2.1) := by decide +kernel
set_option maxRecDepth 100000 in
theorem zq_25_0 : (zl_25_0.flatMap (zz_wr zt_hh zp_P zt_cl zm_25.1.1.cls)).map some = ([374, 373, 373, 373, 638, 1617, 373, 374] : List Nat).map (fun i => lw_tbl[i]?) := by rfl
set_option maxRecDepth 100000 in
theorem zg_25_0 : (zl_25_0.flatMap (zz_wr zt_hh zp_P zt_cl zm_25.1.1.cls)).all goodWord = true := by decide +kernel
set_option maxRecDepth 100000 in
theorem zr_25_0 : (zl_25_0.flatMap (zz_wn zp_P zm_25.1.1.cls)).map some = ([372] : List Nat).map (fun i => lw_tbl[i]?) := by rfl
set_option maxRecDepth 100000 in
theorem zs_25_0 : (zl_25_0.flatMap (zz_wn zp_P zm_25.1.1.cls)).all zz_isN = true := by decide +kernel
set_option maxRecDepth 100000 in
theorem zb_25_0 : zl_25_0.all (fun r => zz_wb zt_hh zp_P zt_cl zt_tf zt_fd zt_nf zm_25.1.1.cls zm_25.1.1.name r) = true := by decide +kernel
set_option maxRecDepth 100000 in
theorem zd_25_1 : ∀ r ∈ zl_25_1, decode zm_25.1.2.1 r.1 = .ok (r.2.1, r.2.2.1) := by decide +kernel
set_option maxRecDepth 100000 in
theorem zq_25_1 : (zl_25_1.flatMap (zz_wr zt_hh zp_P zt_cl zm_25.1.1.cls)).map some = ([] : List Nat).map (fun i => lw_tbl[i]?) := by rfl
set_option maxRecDepth 100000 in
theorem zg_25_1 : (zl_25_1.flatMap (zz_wr zt_hh zp_P zt_cl zm_25.1.1.cls)).all goodWord = true := by decide +kernel
set_option maxRecDepth 100000 in
theorem zr_25_1 : (zl_25_1.flatMap (zz_wn zp_P zm_25.1.1.cls)).map some = ([] : List Nat).map (fun i => lw_tbl[i]?) := by rfl
set_option maxRecDepth 100000 in
theorem zs_25_1 : (zl_25_1.flatMap (zz_wn zp_P zm_25.1.1.cls)).all zz_isN = true := by decide +kernel
set_option maxRecDepth 100000 in
theorem zb_25_1 : zl_25_1.all (fun r => zz_wb zt_hh zp_P zt_cl zt_tf zt_fd zt_nf zm_25.1.1.cls zm_25.1.1.name r) = true := by decide +kernel
set_option maxRecDepth 100000 in
theorem zy_25_0 : zl_25_0.all (fun r => zz_tb zt_hh zp_P zm_25 r) = true := by decide +kernel
set_option maxRecDepth 100000 in
theorem zy_25_1 : zl_25_1.all (fun r => zz_tb zt_hh zp_P zm_25 r) = true := by decide +kernel
theorem zw_25 : zz_okW zt_hh zp_P zt_cl zt_tf zt_fd zt_nf zt_T zt_N zm_25 := List.forall_mem_cons.mpr ⟨(zz_w_okL zd_25_0 zb_25_0 (zz_places goodWord zq_25_0 zg_25_0) (zz_places zz_isN zr_25_0 zs_25_0) zy_25_0), List.forall_mem_cons.mpr ⟨(zz_w_okL zd_25_1 zb_25_1 (zz_places goodWord zq_25_1 zg_25_1) (zz_places zz_isN zr_25_1 zs_25_1) zy_25_1), (fun _ h => absurd h List.not_mem_nil)⟩⟩
set_option maxRecDepth 100000 in
theorem zq_25 : [zz_cw zt_hh zm_25, Cond.initialized zm_25.1.1.cls].map some = ([1616, 220] : List Nat).map (fun i => lw_tbl[i]?) := by rfl
set_option maxRecDepth 100000 in
theorem zg_25 : [zz_cw zt_hh zm_25, Cond.initialized zm_25.1.1.cls].all goodWord = true := by decide +kernel
set_option maxRecDepth 100000 in
theorem zb_25 : (plainName zm_25.1.1.cls && (decide (zm_25.1.1.cls ≠ "java/lang/invoke/MethodHandle" ∧ zm_25.1.1.cls ≠ "java/lang/invoke/VarHandle") && decide (zm_25.1.2.2.1 ≤ 40))) = true := by decide +kernel
theorem zo_25 : zz_okM zt_hh zp_P zt_cl zt_tf zt_fd zt_nf zt_T zt_N zm_25 := zz_w_okM zw_25 zb_25 (zz_places goodWord zq_25 zg_25)
set_option maxRecDepth 100000 in
theorem zd_26_0 : ∀ r ∈ zl_26_0, decode zm_26.1.2.1 r.1 = .ok (r.2.1, r.2.2.1) := by decide +kernel
set_option maxRecDepth 100000 in
theorem zq_26_0 : (zl_26_0.flatMap (zz_wr zt_hh zp_P zt_cl zm_26.1.1.cls)).map some = ([1659, 1660, 1683, 374, 1615, 109, 1613, 1615, 109, 1613, 373, 373] : List Nat).map (fun i => lw_tbl[i]?) := by rfl
set_option maxRecDepth 100000 in
theorem zg_26_0 : (zl_26_0.flatMap (zz_wr zt_hh zp_P zt_cl zm_26.1.1.cls)).all goodWord = true := by decide +kernel
set_option maxRecDepth 100000 in
theorem zr_26_0 : (zl_26_0.flatMap (zz_wn zp_P zm_26.1.1.cls)).map some = ([] : List Nat).map (fun i => lw_tbl[i]?) := by rfl
set_option maxRecDepth 100000 in
theorem zs_26_0 : (zl_26_0.flatMap (zz_wn zp_P zm_26.1.1.cls)).all zz_isN = true := by decide +kernel
set_option maxRecDepth 100000 in
theorem zb_26_0 : zl_26_0.all (fun r => zz_wb zt_hh zp_P zt_cl zt_tf zt_fd zt_nf zm_26.1.1.cls zm_26.1.1.name r) = true := by decide +kernel
set_option maxRecDepth 100000 in
theorem zd_26_1 : ∀ r ∈ zl_26_1, decode zm_26.1.2.1 r.1 = .ok (r.2.1, r.2.2.1) := by decide +kernel
set_option maxRecDepth 100000 in
theorem zq_26_1 : (zl_26_1.flatMap (zz_wr zt_hh zp_P zt_cl zm_26.1.1.cls)).map some = ([1615, 109, 1613] : List Nat).map (fun i => lw_tbl[i]?) := by rfl
set_option maxRecDepth 100000 in
theorem zg_26_1 : (zl_26_1.flatMap (zz_wr zt_hh zp_P zt_cl zm_26.1.1.cls)).all goodWord = true := by decide +kernel
set_option maxRecDepth 100000 in
theorem zr_26_1 : (zl_26_1.flatMap (zz_wn zp_P zm_26.1.1.cls)).map some = ([] : List Nat).map (fun i => lw_tbl[i]?) := by rfl
set_option maxRecDepth 100000 in
theorem zs_26_1 : (zl_26_1.flatMap (zz_wn zp_P zm_26.1.1.cls)).all zz_isN = true := by decide +kernel
set_option maxRecDepth 100000 in
theorem zb_26_1 : zl_26_1.all (fun r => zz_wb zt_hh zp_P zt_cl zt_tf zt_fd zt_nf zm_26.1.1.cls zm_26.1.1.name r) = true := by decide +kernel
set_option maxRecDepth 100000 in
theorem zy_26_0 : zl_26_0.all (fun r => zz_tb zt_hh zp_P zm_26 r) = true := by decide +kernel
set_option maxRecDepth 100000 in
theorem zy_26_1 : zl_26_1.all (fun r => zz_tb zt_hh zp_P zm_26 r) = true := by decide +kernel
theorem zw_26 : zz_okW zt_hh zp_P zt_cl zt_tf zt_fd zt_nf zt_T zt_N zm_26 := List.forall_mem_cons.mpr ⟨(zz_w_okL zd_26_0 zb_26_0 (zz_places goodWord zq_26_0 zg_26_0) (zz_places zz_isN zr_26_0 zs_26_0) zy_26_0), List.forall_mem_cons.mpr ⟨(zz_w_okL zd_26_1 zb_26_1 (zz_places goodWord zq_26_1 zg_26_1) (zz_places zz_isN zr_26_1 zs_26_1) zy_26_1), (fun _ h => absurd h List.not_mem_nil)⟩⟩
set_option maxRecDepth 100000 in
theorem zq_26 : [zz_cw zt_hh zm_26, Cond.initialized zm_26.1.1.cls].map some = ([1682, 220] : List Nat).map (fun i => lw_tbl[i]?) := by rfl
set_option maxRecDepth 100000 in
theorem zg_26 : [zz_cw zt_hh zm_26, Cond.initialized zm_26.1.1.cls].all goodWord = true := by decide +kernel
set_option maxRecDepth 100000 in
theorem zb_26 : (plainName zm_26.1.1.cls && (decide (zm_26.1.1.cls ≠ "java/lang/invoke/MethodHandle" ∧ zm_26.1.1.cls ≠ "java/lang/invoke/VarHandle") && decide (zm_26.1.2.2.1 ≤ 40))) = true := by decide +kernel
theorem zo_26 : zz_okM zt_hh zp_P zt_cl zt_tf zt_fd zt_nf zt_T zt_N zm_26 := zz_w_okM zw_26 zb_26 (zz_places goodWord zq_26 zg_26)
set_option maxRecDepth 100000 in
theorem zd_27_0 : ∀ r ∈ zl_27_0, decode zm_27.1.2.1 r.1 = .ok (r.2.1, r.2.2.1) := by decide +kernel
set_option maxRecDepth 100000 in
theorem zq_27_0 : (zl_27_0.flatMap (zz_wr zt_hh zp_P zt_cl zm_27.1.1.cls)).map some = ([374, 374, 374, 373, 373] : List Nat).map (fun i => lw_tbl[i]?) := by rfl
set_option maxRecDepth 100000 in
theorem zg_27_0 : (zl_27_0.flatMap (zz_wr zt_hh zp_P zt_cl zm_27.1.1.cls)).all goodWord = true := by decide +kernel
set_option maxRecDepth 100000 in
theorem zr_27_0 : (zl_27_0.flatMap (zz_wn zp_P zm_27.1.1.cls)).map some = ([] : List Nat).map (fun i => lw_tbl[i]?) := by rfl
set_option maxRecDepth 100000 in
theorem zs_27_0 : (zl_27_0.flatMap (zz_wn zp_P zm_27.1.1.cls)).all zz_isN = true := by decide +kernel
set_option maxRecDepth 100000 in
theorem zb_27_0 : zl_27_0.all (fun r => zz_wb zt_hh zp_P zt_cl zt_tf zt_fd zt_nf zm_27.1.1.cls zm_27.1.1.name r) = true := by decide +kernel
set_option maxRecDepth 100000 in
theorem zd_27_1 : ∀ r ∈ zl_27_1, decode zm_27.1.2.1 r.1 = .ok (r.2.1, r.2.2.1) := by decide +kernel
set_option maxRecDepth 100000 in
theorem zq_27_1 : (zl_27_1.flatMap (zz_wr zt_hh zp_P zt_cl zm_27.1.1.cls)).map some = ([] : List Nat).map (fun i => lw_tbl[i]?) := by rfl
set_option maxRecDepth 100000 in
theorem zg_27_1 : (zl_27_1.flatMap (zz_wr zt_hh zp_P zt_cl zm_27.1.1.cls)).all goodWord = true := by decide +kernel
set_option maxRecDepth 100000 in
theorem zr_27_1 : (zl_27_1.flatMap (zz_wn zp_P zm_27.1.1.cls)).map some = ([] : List Nat).map (fun i => lw_tbl[i]?) := by rfl
set_option maxRecDepth 100000 in
theorem zs_27_1 : (zl_27_1.flatMap (zz_wn zp_P zm_27.1.1.cls)).all zz_isN = true := by decide +kernel
set_option maxRecDepth 100000 in
theorem zb_27_1 : zl_27_1.all (fun r => zz_wb zt_hh zp_P zt_cl zt_tf zt_fd zt_nf zm_27.1.1.cls zm_27.1.1.name r) = true := by decide +kernel
set_option maxRecDepth 100000 in
theorem zy_27_0 : zl_27_0.all (fun r => zz_tb zt_hh zp_P zm_27 r) = true := by decide +kernel
set_option maxRecDepth 100000 in
theorem zy_27_1 : zl_27_1.all (fun r => zz_tb zt_hh zp_P zm_27 r) = true := by decide +kernel
theorem zw_27 : zz_okW zt_hh zp_P zt_cl zt_tf zt_fd zt_nf zt_T zt_N zm_27 := List.forall_mem_cons.mpr ⟨(zz_w_okL zd_27_0 zb_27_0 (zz_places goodWord zq_27_0 zg_27_0) (zz_places zz_isN zr_27_0 zs_27_0) zy_27_0), List.forall_mem_cons.mpr ⟨(zz_w_okL zd_27_1 zb_27_1 (zz_places goodWord zq_27_1 zg_27_1) (zz_places zz_isN zr_27_1 zs_27_1) zy_27_1), (fun _ h => absurd h List.not_mem_nil)⟩⟩
set_option maxRecDepth 100000 in
theorem zq_27 : [zz_cw zt_hh zm_27, Cond.initialized zm_27.1.1.cls].map some = ([1716, 220] : List Nat).map (fun i => lw_tbl[i]?) := by rfl
set_option maxRecDepth 100000 in
theorem zg_27 : [zz_cw zt_hh zm_27, Cond.initialized zm_27.1.1.cls].all goodWord = true := by decide +kernel
set_option maxRecDepth 100000 in
theorem zb_27 : (plainName zm_27.1.1.cls && (decide (zm_27.1.1.cls ≠ "java/lang/invoke/MethodHandle" ∧ zm_27.1.1.cls ≠ "java/lang/invoke/VarHandle") && decide (zm_27.1.2.2.1 ≤ 40))) = true := by decide +kernel
theorem zo_27 : zz_okM zt_hh zp_P zt_cl zt_tf zt_fd zt_nf zt_T zt_N zm_27 := zz_w_okM zw_27 zb_27 (zz_places goodWord zq_27 zg_27)
set_option maxRecDepth 100000 in
theorem zd_28_0 : ∀ r ∈ zl_28_0, decode zm_28.1.2.1 r.1 = .ok (r.2.1, r.2.2.1) := by decide +kernel
set_option maxRecDepth 100000 in
theorem zq_28_0 : (zl_28_0.flatMap (zz_wr zt_hh zp_P zt_cl zm_28.1.1.cls)).map some = ([374, 1742, 1743, 374, 1742, 373] : List Nat).map (fun i => lw_tbl[i]?) := by rfl
set_option maxRecDepth 100000 in
theorem zg_28_0 : (zl_28_0.flatMap (zz_wr zt_hh zp_P zt_cl zm_28.1.1.cls)).all goodWord = true := by decide +kernel
set_option maxRecDepth 100000 in
theorem zr_28_0 : (zl_28_0.flatMap (zz_wn zp_P zm_28.1.1.cls)).map some = ([] : List Nat).map (fun i => lw_tbl[i]?) := by rfl
set_option maxRecDepth 100000 in
theorem zs_28_0 : (zl_28_0.flatMap (zz_wn zp_P zm_28.1.1.cls)).all zz_isN = true := by decide +kernel
set_option maxRecDepth 100000 in
theorem zb_28_0 : zl_28_0.all (fun r => zz_wb zt_hh zp_P zt_cl zt_tf zt_fd zt_nf zm_28.1.1.cls zm_28.1.1.name r) = true := by decide +kernel
set_option maxRecDepth 100000 in
theorem zy_28_0 : zl_28_0.all (fun r => zz_tb zt_hh zp_P zm_28 r) = true := by decide +kernel
theorem zw_28 : zz_okW zt_hh zp_P zt_cl zt_tf zt_fd zt_nf zt_T zt_N zm_28 := List.forall_mem_cons.mpr ⟨(zz_w_okL zd_28_0 zb_28_0 (zz_places goodWord zq_28_0 zg_28_0) (zz_places zz_isN zr_28_0 zs_28_0) zy_28_0), (fun _ h => absurd h List.not_mem_nil)⟩
set_option maxRecDepth 100000 in
theorem zq_28 : [zz_cw zt_hh zm_28, Cond.initialized zm_28.1.1.cls].map some = ([1741, 220] : List Nat).map (fun i => lw_tbl[i]?) := by rfl
set_option maxRecDepth 100000 in
theorem zg_28 : [zz_cw zt_hh zm_28, Cond.initialized zm_28.1.1.cls].all goodWord = true := by decide +kernel
set_option maxRecDepth 100000 in
theorem zb_28 : (plainName zm_28.1.1.cls && (decide (zm_28.1.1.cls ≠ "java/lang/invoke/MethodHandle" ∧ zm_28.1.1.cls ≠ "java/lang/invoke/VarHandle") && decide (zm_28.1.2.2.1 ≤ 40))) = true := by decide +kernel
theorem zo_28 : zz_okM zt_hh zp_P zt_cl zt_tf zt_fd zt_nf zt_T zt_N zm_28 := zz_w_okM zw_28 zb_28 (zz_places goodWord zq_28 zg_28)
set_option maxRecDepth 100000 in
theorem zd_29_0 : ∀ r ∈ zl_29_0, decode zm_29.1.2.1 r.1 = .ok (r.2.1, r.2.2.1) := by decide +kernel
set_option maxRecDepth 100000 in
theorem zq_29_0 : (zl_29_0.flatMap (zz_wr zt_hh zp_P zt_cl zm_29.1.1.cls)).map some = ([373, 374, 373, 374, 289, 373, 373, 374, 1729, 607, 606, 230] : List Nat).map (fun i => lw_tbl[i]?) := by rfl
set_option maxRecDepth 100000 in
theorem zg_29_0 : (zl_29_0.flatMap (zz_wr zt_hh zp_P zt_cl zm_29.1.1.cls)).all goodWord = true := by decide +kernel
set_option maxRecDepth 100000 in
theorem zr_29_0 : (zl_29_0.flatMap (zz_wn zp_P zm_29.1.1.cls)).map some = ([372] : List Nat).map (fun i => lw_tbl[i]?) := by rfl
set_option maxRecDepth 100000 in
theorem zs_29_0 : (zl_29_0.flatMap (zz_wn zp_P zm_29.1.1.cls)).all zz_isN = true := by decide +kernel
set_option maxRecDepth 100000 in
theorem zb_29_0 : zl_29_0.all (fun r => zz_wb zt_hh zp_P zt_cl zt_tf zt_fd zt_nf zm_29.1.1.cls zm_29.1.1.name r) = true := by decide +kernel
set_option maxRecDepth 100000 in
theorem zd_29_1 : ∀ r ∈ zl_29_1, decode zm_29.1.2.1 r.1 = .ok (r.2.1, r.2.2.1) := by decide +kernel
set_option maxRecDepth 100000 in
theorem zq_29_1 : (zl_29_1.flatMap (zz_wr zt_hh zp_P zt_cl zm_29.1.1.cls)).map some = ([374, 374] : List Nat).map (fun i => lw_tbl[i]?) := by rfl
set_option maxRecDepth 100000 in
theorem zg_29_1 : (zl_29_1.flatMap (zz_wr zt_hh zp_P zt_cl zm_29.1.1.cls)).all goodWord = true := by decide +kernel
set_option maxRecDepth 100000 in
theorem zr_29_1 : (zl_29_1.flatMap (zz_wn zp_P zm_29.1.1.cls)).map some = ([] : List Nat).map (fun i => lw_tbl[i]?) := by rfl
set_option maxRecDepth 100000 in
theorem zs_29_1 : (zl_29_1.flatMap (zz_wn zp_P zm_29.1.1.cls)).all zz_isN = true := by decide +kernel
set_option maxRecDepth 100000 in
theorem zb_29_1 : zl_29_1.all (fun r => zz_wb zt_hh zp_P zt_cl zt_tf zt_fd zt_nf zm_29.1.1.cls zm_29.1.1.name r) = true := by decide +kernel
set_option maxRecDepth 100000 in
theorem zy_29_0 : zl_29_0.all (fun r => zz_tb zt_hh zp_P zm_29 r) = true := by decide +kernel
set_option maxRecDepth 100000 in
theorem zy_29_1 : zl_29_1.all (fun r => zz_tb zt_hh zp_P zm_29 r) = true := by decide +kernel
theorem zw_29 : zz_okW zt_hh zp_P zt_cl zt_tf zt_fd zt_nf zt_T zt_N zm_29 := List.forall_mem_cons.mpr ⟨(zz_w_okL zd_29_0 zb_29_0 (zz_places goodWord zq_29_0 zg_29_0) (zz_places zz_isN zr_29_0 zs_29_0) zy_29_0), List.forall_mem_cons.mpr ⟨(zz_w_okL zd_29_1 zb_29_1 (zz_places goodWord zq_29_1 zg_29_1) (zz_places zz_isN zr_29_1 zs_29_1) zy_29_1), (fun _ h => absurd h List.not_mem_nil)⟩⟩
set_option maxRecDepth 100000 in
theorem zq_29 : [zz_cw zt_hh zm_29, Cond.initialized zm_29.1.1.cls].map some = ([1728, 220] : List Nat).map (fun i => lw_tbl[i]?) := by rfl
set_option maxRecDepth 100000 in
theorem zg_29 : [zz_cw zt_hh zm_29, Cond.initialized zm_29.1.1.cls].all goodWord = true := by decide +kernel
set_option maxRecDepth 100000 in
theorem zb_29 : (plainName zm_29.1.1.cls && (decide (zm_29.1.1.cls ≠ "java/lang/invoke/MethodHandle" ∧ zm_29.1.1.cls ≠ "java/lang/invoke/VarHandle") && decide (zm_29.1.2.2.1 ≤ 40))) = true := by decide +kernel
theorem zo_29 : zz_okM zt_hh zp_P zt_cl zt_tf zt_fd zt_nf zt_T zt_N zm_29 := zz_w_okM zw_29 zb_29 (zz_places goodWord zq_29 zg_29)
set_option maxRecDepth 100000 in
theorem zd_30_0 : ∀ r ∈ zl_30_0, decode zm_30.1.2.1 r.1 = .ok (r.2.1, r.2.2.1) := by decide +kernel
set_option maxRecDepth 100000 in
theorem zq_30_0 : (zl_30_0.flatMap (zz_wr zt_hh zp_P zt_cl zm_30.1.1.cls)).map some = ([333, 249, 250, 289, 334, 289, 335, 289, 336, 290, 339, 289, 340, 289, 341, 289, 342, 289, 343] : List Nat).map (fun i => lw_tbl[i]?) := by rfl
set_option maxRecDepth 100000 in
theorem zg_30_0 : (zl_30_0.flatMap (zz_wr zt_hh zp_P zt_cl zm_30.1.1.cls)).all goodWord = true := by decide +kernel
set_option maxRecDepth 100000 in
theorem zr_30_0 : (zl_30_0.flatMap (zz_wn zp_P zm_30.1.1.cls)).map some = ([] : List Nat).map (fun i => lw_tbl[i]?) := by rfl
set_option maxRecDepth 100000 in
theorem zs_30_0 : (zl_30_0.flatMap (zz_wn zp_P zm_30.1.1.cls)).all zz_isN = true := by decide +kernel
set_option maxRecDepth 100000 in
theorem zb_30_0 : zl_30_0.all (fun r => zz_wb zt_hh zp_P zt_cl zt_tf zt_fd zt_nf zm_30.1.1.cls zm_30.1.1.name r) = true := by decide +kernel
set_option maxRecDepth 100000 in
theorem zy_30_0 : zl_30_0.all (fun r => zz_tb zt_hh zp_P zm_30 r) = true := by decide +kernel
theorem zw_30 : zz_okW zt_hh zp_P zt_cl zt_tf zt_fd zt_nf zt_T zt_N zm_30 := List.forall_mem_cons.mpr ⟨(zz_w_okL zd_30_0 zb_30_0 (zz_places goodWord zq_30_0 zg_30_0) (zz_places zz_isN zr_30_0 zs_30_0) zy_30_0), (fun _ h => absurd h List.not_mem_nil)⟩
set_option maxRecDepth 100000 in
theorem zq_30 : [zz_cw zt_hh zm_30, Cond.initialized zm_30.1.1.cls].map some = ([332, 219] : List Nat).map (fun i => lw_tbl[i]?) := by rfl
set_option maxRecDepth 100000 in
theorem zg_30 : [zz_cw zt_hh zm_30, Cond.initialized zm_30.1.1.cls].all goodWord = true := by decide +kernel
set_option maxRecDepth 100000 in
theorem zb_30 : (plainName zm_30.1.1.cls && (decide (zm_30.1.1.cls ≠ "java/lang/invoke/MethodHandle" ∧ zm_30.1.1.cls ≠ "java/lang/invoke/VarHandle") && decide (zm_30.1.2.2.1 ≤ 40))) = true := by decide +kernel
theorem zo_30 : zz_okM zt_hh zp_P zt_cl zt_tf zt_fd zt_nf zt_T zt_N zm_30 := zz_w_okM zw_30 zb_30 (zz_places goodWord zq_30 zg_30)
set_option maxRecDepth 100000 in
theorem zd_31_0 : ∀ r ∈ zl_31_0, decode zm_31.1.2.1 r.1 = .ok (r.2.1, r.2.2.1) := by decide +kernel
set_option maxRecDepth 100000 in
theorem zq_31_0 : (zl_31_0.flatMap (zz_wr zt_hh zp_P zt_cl zm_31.1.1.cls)).map some = ([337, 338] : List Nat).map (fun i => lw_tbl[i]?) := by rfl
set_option maxRecDepth 100000 in
theorem zg_31_0 : (zl_31_0.flatMap (zz_wr zt_hh zp_P zt_cl zm_31.1.1.cls)).all goodWord = true := by decide +kernel
set_option maxRecDepth 100000 in
theorem zr_31_0 : (zl_31_0.flatMap (zz_wn zp_P zm_31.1.1.cls)).map some = ([] : List Nat).map (fun i => lw_tbl[i]?) := by rfl
set_option maxRecDepth 100000 in
theorem zs_31_0 : (zl_31_0.flatMap (zz_wn zp_P zm_31.1.1.cls)).all zz_isN = true := by decide +kernel
set_option maxRecDepth 100000 in
theorem zb_31_0 : zl_31_0.all (fun r => zz_wb zt_hh zp_P zt_cl zt_tf zt_fd zt_nf zm_31.1.1.cls zm_31.1.1.name r) = true := by decide +kernel
set_option maxRecDepth 100000 in
theorem zy_31_0 : zl_31_0.all (fun r => zz_tb zt_hh zp_P zm_31 r) = true := by decide +kernel
theorem zw_31 : zz_okW zt_hh zp_P zt_cl zt_tf zt_fd zt_nf zt_T zt_N zm_31 := List.forall_mem_cons.mpr ⟨(zz_w_okL zd_31_0 zb_31_0 (zz_places goodWord zq_31_0 zg_31_0) (zz_places zz_isN zr_31_0 zs_31_0) zy_31_0), (fun _ h => absurd h List.not_mem_nil)⟩
set_option maxRecDepth 100000 in
theorem zq_31 : [zz_cw zt_hh zm_31, Cond.initialized zm_31.1.1.cls].map some = ([764, 219] : List Nat).map (fun i => lw_tbl[i]?) := by rfl
set_option maxRecDepth 100000 in
theorem zg_31 : [zz_cw zt_hh zm_31, Cond.initialized zm_31.1.1.cls].all goodWord = true := by decide +kernel
set_option maxRecDepth 100000 in
theorem zb_31 : (plainName zm_31.1.1.cls && (decide (zm_31.1.1.cls ≠ "java/lang/invoke/MethodHandle" ∧ zm_31.1.1.cls ≠ "java/lang/invoke/VarHandle") && decide (zm_31.1.2.2.1 ≤ 40))) = true := by decide +kernel
theorem zo_31 : zz_okM zt_hh zp_P zt_cl zt_tf zt_fd zt_nf zt_T zt_N zm_31 := zz_w_okM zw_31 zb_31 (zz_places goodWord zq_31 zg_31)
set_option maxRecDepth 100000 in
theorem zd_32_0 : ∀ r ∈ zl_32_0, decode zm_32.1.2.1 r.1 = .ok (r.2.1, r.2.2.1) := by decide +kernel
set_option maxRecDepth 100000 in
theorem zq_32_0 : (zl_32_0.flatMap (zz_wr zt_hh zp_P zt_cl zm_32.1.1.cls)).map some = ([338] : List Nat).map (fun i => lw_tbl[i]?) := by rfl
set_option maxRecDepth 100000 in
theorem zg_32_0 : (zl_32_0.flatMap (zz_wr zt_hh zp_P zt_cl zm_32.1.1.cls)).all goodWord = true := by decide +kernel
set_option maxRecDepth 100000 in
theorem zr_32_0 : (zl_32_0.flatMap (zz_wn zp_P zm_32.1.1.cls)).map some = ([] : List Nat).map (fun i => lw_tbl[i]?) := by rfl
set_option maxRecDepth 100000 in
theorem zs_32_0 : (zl_32_0.flatMap (zz_wn zp_P zm_32.1.1.cls)).all zz_isN = true := by decide +kernel
set_option maxRecDepth 100000 in
theorem zb_32_0 : zl_32_0.all (fun r => zz_wb zt_hh zp_P zt_cl zt_tf zt_fd zt_nf zm_32.1.1.cls zm_32.1.1.name r) = true := by decide +kernel
set_option maxRecDepth 100000 in
theorem zy_32_0 : zl_32_0.all (fun r => zz_tb zt_hh zp_P zm_32 r) = true := by decide +kernel
theorem zw_32 : zz_okW zt_hh zp_P zt_cl zt_tf zt_fd zt_nf zt_T zt_N zm_32 := List.forall_mem_cons.mpr ⟨(zz_w_okL zd_32_0 zb_32_0 (zz_places goodWord zq_32_0 zg_32_0) (zz_places zz_isN zr_32_0 zs_32_0) zy_32_0), (fun _ h => absurd h List.not_mem_nil)⟩
set_option maxRecDepth 100000 in
theorem zq_32 : [zz_cw zt_hh zm_32, Cond.initialized zm_32.1.1.cls].map some = ([875, 219] : List Nat).map (fun i => lw_tbl[i]?) := by rfl
set_option maxRecDepth 100000 in
theorem zg_32 : [zz_cw zt_hh zm_32, Cond.initialized zm_32.1.1.cls].all goodWord = true := by decide +kernel
set_option maxRecDepth 100000 in
theorem zb_32 : (plainName zm_32.1.1.cls && (decide (zm_32.1.1.cls ≠ "java/lang/invoke/MethodHandle" ∧ zm_32.1.1.cls ≠ "java/lang/invoke/VarHandle") && decide (zm_32.1.2.2.1 ≤ 40))) = true := by decide +kernel
theorem zo_32 : zz_okM zt_hh zp_P zt_cl zt_tf zt_fd zt_nf zt_T zt_N zm_32 := zz_w_okM zw_32 zb_32 (zz_places goodWord zq_32 zg_32)
set_option maxRecDepth 100000 in
theorem zd_33_0 : ∀ r ∈ zl_33_0, decode zm_33.1.2.1 r.1 = .ok (r.2.1, r.2.2.1) := by decide +kernel
set_option maxRecDepth 100000 in
theorem zq_33_0 : (zl_33_0.flatMap (zz_wr zt_hh zp_P zt_cl zm_33.1.1.cls)).map some = ([338, 341, 342, 343] : List Nat).map (fun i => lw_tbl[i]?) := by rfl
set_option maxRecDepth 100000 in
theorem zg_33_0 : (zl_33_0.flatMap (zz_wr zt_hh zp_P zt_cl zm_33.1.1.cls)).all goodWord = true := by decide +kernel
set_option maxRecDepth 100000 in
theorem zr_33_0 : (zl_33_0.flatMap (zz_wn zp_P zm_33.1.1.cls)).map some = ([] : List Nat).map (fun i => lw_tbl[i]?) := by rfl
set_option maxRecDepth 100000 in
theorem zs_33_0 : (zl_33_0.flatMap (zz_wn zp_P zm_33.1.1.cls)).all zz_isN = true := by decide +kernel
set_option maxRecDepth 100000 in
theorem zb_33_0 : zl_33_0.all (fun r => zz_wb zt_hh zp_P zt_cl zt_tf zt_fd zt_nf zm_33.1.1.cls zm_33.1.1.name r) = true := by decide +kernel
set_option maxRecDepth 100000 in
theorem zy_33_0 : zl_33_0.all (fun r => zz_tb zt_hh zp_P zm_33 r) = true := by decide +kernel
theorem zw_33 : zz_okW zt_hh zp_P zt_cl zt_tf zt_fd zt_nf zt_T zt_N zm_33 := List.forall_mem_cons.mpr ⟨(zz_w_okL zd_33_0 zb_33_0 (zz_places goodWord zq_33_0 zg_33_0) (zz_places zz_isN zr_33_0 zs_33_0) zy_33_0), (fun _ h => absurd h List.not_mem_nil)⟩
set_option maxRecDepth 100000 in
theorem zq_33 : [zz_cw zt_hh zm_33, Cond.initialized zm_33.1.1.cls].map some = ([1041, 219] : List Nat).map (fun i => lw_tbl[i]?) := by rfl
set_option maxRecDepth 100000 in
theorem zg_33 : [zz_cw zt_hh zm_33, Cond.initialized zm_33.1.1.cls].all goodWord = true := by decide +kernel
set_option maxRecDepth 100000 in
theorem zb_33 : (plainName zm_33.1.1.cls && (decide (zm_33.1.1.cls ≠ "java/lang/invoke/MethodHandle" ∧ zm_33.1.1.cls ≠ "java/lang/invoke/VarHandle") && decide (zm_33.1.2.2.1 ≤ 40))) = true := by decide +kernel
theorem zo_33 : zz_okM zt_hh zp_P zt_cl zt_tf zt_fd zt_nf zt_T zt_N zm_33 := zz_w_okM zw_33 zb_33 (zz_places goodWord zq_33 zg_33)
set_option maxRecDepth 100000 in
theorem zd_34_0 : ∀ r ∈ zl_34_0, decode zm_34.1.2.1 r.1 = .ok (r.2.1, r.2.2.1) := by decide +kernel
set_option maxRecDepth 100000 in
theorem zq_34_0 : (zl_34_0.flatMap (zz_wr zt_hh zp_P zt_cl zm_34.1.1.cls)).map some = ([256, 249, 250, 257, 258, 218, 260, 291, 290, 294, 289, 296, 290, 297, 289, 298, 289, 299] : List Nat).map (fun i => lw_tbl[i]?) := by rfl
set_option maxRecDepth 100000 in
theorem zg_34_0 : (zl_34_0.flatMap (zz_wr zt_hh zp_P zt_cl zm_34.1.1.cls)).all goodWord = true := by decide +kernel
set_option maxRecDepth 100000 in
theorem zr_34_0 : (zl_34_0.flatMap (zz_wn zp_P zm_34.1.1.cls)).map some = ([259] : List Nat).map (fun i => lw_tbl[i]?) := by rfl
set_option maxRecDepth 100000 in
theorem zs_34_0 : (zl_34_0.flatMap (zz_wn zp_P zm_34.1.1.cls)).all zz_isN = true := by decide +kernel
set_option maxRecDepth 100000 in
theorem zb_34_0 : zl_34_0.all (fun r => zz_wb zt_hh zp_P zt_cl zt_tf zt_fd zt_nf zm_34.1.1.cls zm_34.1.1.name r) = true := by decide +kernel
set_option maxRecDepth 100000 in
theorem zy_34_0 : zl_34_0.all (fun r => zz_tb zt_hh zp_P zm_34 r) = true := by decide +kernel
theorem zw_34 : zz_okW zt_hh zp_P zt_cl zt_tf zt_fd zt_nf zt_T zt_N zm_34 := List.forall_mem_cons.mpr ⟨(zz_w_okL zd_34_0 zb_34_0 (zz_places goodWord zq_34_0 zg_34_0) (zz_places zz_isN zr_34_0 zs_34_0) zy_34_0), (fun _ h => absurd h List.not_mem_nil)⟩
set_option maxRecDepth 100000 in
theorem zq_34 : [zz_cw zt_hh zm_34, Cond.initialized zm_34.1.1.cls].map some = ([255, 217] : List Nat).map (fun i => lw_tbl[i]?) := by rfl
set_option maxRecDepth 100000 in
theorem zg_34 : [zz_cw zt_hh zm_34, Cond.initialized zm_34.1.1.cls].all goodWord = true := by decide +kernel
set_option maxRecDepth 100000 in
theorem zb_34 : (plainName zm_34.1.1.cls && (decide (zm_34.1.1.cls ≠ "java/lang/invoke/MethodHandle" ∧ zm_34.1.1.cls ≠ "java/lang/invoke/VarHandle") && decide (zm_34.1.2.2.1 ≤ 40))) = true := by decide +kernel
theorem zo_34 : zz_okM zt_hh zp_P zt_cl zt_tf zt_fd zt_nf zt_T zt_N zm_34 := zz_w_okM zw_34 zb_34 (zz_places goodWord zq_34 zg_34)
set_option maxRecDepth 100000 in
theorem zd_35_0 : ∀ r ∈ zl_35_0, decode zm_35.1.2.1 r.1 = .ok (r.2.1, r.2.2.1) := by decide +kernel
set_option maxRecDepth 100000 in
theorem zq_35_0 : (zl_35_0.flatMap (zz_wr zt_hh zp_P zt_cl zm_35.1.1.cls)).map some = ([291, 622, 623, 621, 292, 292, 762, 763, 761, 293, 300, 301, 302, 291, 766, 767, 765, 291, 770, 771, 769, 775, 5, 773, 620] : List Nat).map (fun i => lw_tbl[i]?) := by rfl
set_option maxRecDepth 100000 in
theorem zg_35_0 : (zl_35_0.flatMap (zz_wr zt_hh zp_P zt_cl zm_35.1.1.cls)).all goodWord = true := by decide +kernel
set_option maxRecDepth 100000 in
theorem zr_35_0 : (zl_35_0.flatMap (zz_wn zp_P zm_35.1.1.cls)).map some = ([804] : List Nat).map (fun i => lw_tbl[i]?) := by rfl
set_option maxRecDepth 100000 in
theorem zs_35_0 : (zl_35_0.flatMap (zz_wn zp_P zm_35.1.1.cls)).all zz_isN = true := by decide +kernel
set_option maxRecDepth 100000 in
theorem zb_35_0 : zl_35_0.all (fun r => zz_wb zt_hh zp_P zt_cl zt_tf zt_fd zt_nf zm_35.1.1.cls zm_35.1.1.name r) = true := by decide +kernel
set_option maxRecDepth 100000 in
theorem zd_35_1 : ∀ r ∈ zl_35_1, decode zm_35.1.2.1 r.1 = .ok (r.2.1, r.2.2.1) := by decide +kernel
set_option maxRecDepth 100000 in
theorem zq_35_1 : (zl_35_1.flatMap (zz_wr zt_hh zp_P zt_cl zm_35.1.1.cls)).map some = ([1036, 34, 1034] : List Nat).map (fun i => lw_tbl[i]?) := by rfl
set_option maxRecDepth 100000 in
theorem zg_35_1 : (zl_35_1.flatMap (zz_wr zt_hh zp_P zt_cl zm_35.1.1.cls)).all goodWord = true := by decide +kernel
set_option maxRecDepth 100000 in
theorem zr_35_1 : (zl_35_1.flatMap (zz_wn zp_P zm_35.1.1.cls)).map some = ([] : List Nat).map (fun i => lw_tbl[i]?) := by rfl
set_option maxRecDepth 100000 in
theorem zs_35_1 : (zl_35_1.flatMap (zz_wn zp_P zm_35.1.1.cls)).all zz_isN = true := by decide +kernel
set_option maxRecDepth 100000 in
theorem zb_35_1 : zl_35_1.all (fun r => zz_wb zt_hh zp_P zt_cl zt_tf zt_fd zt_nf zm_35.1.1.cls zm_35.1.1.name r) = true := by decide +kernel
set_option maxRecDepth 100000 in
theorem zy_35_0 : zl_35_0.all (fun r => zz_tb zt_hh zp_P zm_35 r) = true := by decide +kernel
set_option maxRecDepth 100000 in
theorem zy_35_1 : zl_35_1.all (fun r => zz_tb zt_hh zp_P zm_35 r) = true := by decide +kernel
theorem zw_35 : zz_okW zt_hh zp_P zt_cl zt_tf zt_fd zt_nf zt_T zt_N zm_35 := List.forall_mem_cons.mpr ⟨(zz_w_okL zd_35_0 zb_35_0 (zz_places goodWord zq_35_0 zg_35_0) (zz_places zz_isN zr_35_0 zs_35_0) zy_35_0), List.forall_mem_cons.mpr ⟨(zz_w_okL zd_35_1 zb_35_1 (zz_places goodWord zq_35_1 zg_35_1) (zz_places zz_isN zr_35_1 zs_35_1) zy_35_1), (fun _ h => absurd h List.not_mem_nil)⟩⟩
set_option maxRecDepth 100000 in
theorem zq_35 : [zz_cw zt_hh zm_35, Cond.initialized zm_35.1.1.cls].map some = ([619, 217] : List Nat).map (fun i => lw_tbl[i]?) := by rfl
set_option maxRecDepth 100000 in
theorem zg_35 : [zz_cw zt_hh zm_35, Cond.initialized zm_35.1.1.cls].all goodWord = true := by decide +kernel
set_option maxRecDepth 100000 in
theorem zb_35 : (plainName zm_35.1.1.cls && (decide (zm_35.1.1.cls ≠ "java/lang/invoke/MethodHandle" ∧ zm_35.1.1.cls ≠ "java/lang/invoke/VarHandle") && decide (zm_35.1.2.2.1 ≤ 40))) = true := by decide +kernel
theorem zo_35 : zz_okM zt_hh zp_P zt_cl zt_tf zt_fd zt_nf zt_T zt_N zm_35 := zz_w_okM zw_35 zb_35 (zz_places goodWord zq_35 zg_35)
set_option maxRecDepth 100000 in
theorem zd_36_0 : ∀ r ∈ zl_36_0, decode zm_36.1.2.1 r.1 = .ok (r.2.1, r.2.2.1) := by decide +kernel
set_option maxRecDepth 100000 in
theorem zq_36_0 : (zl_36_0.flatMap (zz_wr zt_hh zp_P zt_cl zm_36.1.1.cls)).map some = ([301] : List Nat).map (fun i => lw_tbl[i]?) := by rfl
set_option maxRecDepth 100000 in
theorem zg_36_0 : (zl_36_0.flatMap (zz_wr zt_hh zp_P zt_cl zm_36.1.1.cls)).all goodWord = true := by decide +kernel
set_option maxRecDepth 100000 in
theorem zr_36_0 : (zl_36_0.flatMap (zz_wn zp_P zm_36.1.1.cls)).map some = ([] : List Nat).map (fun i => lw_tbl[i]?) := by rfl
set_option maxRecDepth 100000 in
theorem zs_36_0 : (zl_36_0.flatMap (zz_wn zp_P zm_36.1.1.cls)).all zz_isN = true := by decide +kernel
set_option maxRecDepth 100000 in
theorem zb_36_0 : zl_36_0.all (fun r => zz_wb zt_hh zp_P zt_cl zt_tf zt_fd zt_nf zm_36.1.1.cls zm_36.1.1.name r) = true := by decide +kernel
set_option maxRecDepth 100000 in
theorem zy_36_0 : zl_36_0.all (fun r => zz_tb zt_hh zp_P zm_36 r) = true := by decide +kernel
theorem zw_36 : zz_okW zt_hh zp_P zt_cl zt_tf zt_fd zt_nf zt_T zt_N zm_36 := List.forall_mem_cons.mpr ⟨(zz_w_okL zd_36_0 zb_36_0 (zz_places goodWord zq_36_0 zg_36_0) (zz_places zz_isN zr_36_0 zs_36_0) zy_36_0), (fun _ h => absurd h List.not_mem_nil)⟩
set_option maxRecDepth 100000 in
theorem zq_36 : [zz_cw zt_hh zm_36, Cond.initialized zm_36.1.1.cls].map some = ([1045, 217] : List Nat).map (fun i => lw_tbl[i]?) := by rfl
set_option maxRecDepth 100000 in
theorem zg_36 : [zz_cw zt_hh zm_36, Cond.initialized zm_36.1.1.cls].all goodWord = true := by decide +kernel
set_option maxRecDepth 100000 in
theorem zb_36 : (plainName zm_36.1.1.cls && (decide (zm_36.1.1.cls ≠ "java/lang/invoke/MethodHandle" ∧ zm_36.1.1.cls ≠ "java/lang/invoke/VarHandle") && decide (zm_36.1.2.2.1 ≤ 40))) = true := by decide +kernel
theorem zo_36 : zz_okM zt_hh zp_P zt_cl zt_tf zt_fd zt_nf zt_T zt_N zm_36 := zz_w_okM zw_36 zb_36 (zz_places goodWord zq_36 zg_36)
set_option maxRecDepth 100000 in
theorem zd_37_0 : ∀ r ∈ zl_37_0, decode zm_37.1.2.1 r.1 = .ok (r.2.1, r.2.2.1) := by decide +kernel
set_option maxRecDepth 100000 in
theorem zq_37_0 : (zl_37_0.flatMap (zz_wr zt_hh zp_P zt_cl zm_37.1.1.cls)).map some = ([302] : List Nat).map (fun i => lw_tbl[i]?) := by rfl
set_option maxRecDepth 100000 in
theorem zg_37_0 : (zl_37_0.flatMap (zz_wr zt_hh zp_P zt_cl zm_37.1.1.cls)).all goodWord = true := by decide +kernel
set_option maxRecDepth 100000 in
theorem zr_37_0 : (zl_37_0.flatMap (zz_wn zp_P zm_37.1.1.cls)).map some = ([] : List Nat).map (fun i => lw_tbl[i]?) := by rfl
set_option maxRecDepth 100000 in
theorem zs_37_0 : (zl_37_0.flatMap (zz_wn zp_P zm_37.1.1.cls)).all zz_isN = true := by decide +kernel
set_option maxRecDepth 100000 in
theorem zb_37_0 : zl_37_0.all (fun r => zz_wb zt_hh zp_P zt_cl zt_tf zt_fd zt_nf zm_37.1.1.cls zm_37.1.1.name r) = true := by decide +kernel
set_option maxRecDepth 100000 in
theorem zy_37_0 : zl_37_0.all (fun r => zz_tb zt_hh zp_P zm_37 r) = true := by decide +kernel
theorem zw_37 : zz_okW zt_hh zp_P zt_cl zt_tf zt_fd zt_nf zt_T zt_N zm_37 := List.forall_mem_cons.mpr ⟨(zz_w_okL zd_37_0 zb_37_0 (zz_places goodWord zq_37_0 zg_37_0) (zz_places zz_isN zr_37_0 zs_37_0) zy_37_0), (fun _ h => absurd h List.not_mem_nil)⟩
set_option maxRecDepth 100000 in
theorem zq_37 : [zz_cw zt_hh zm_37, Cond.initialized zm_37.1.1.cls].map some = ([1049, 217] : List Nat).map (fun i => lw_tbl[i]?) := by rfl
set_option maxRecDepth 100000 in
theorem zg_37 : [zz_cw zt_hh zm_37, Cond.initialized zm_37.1.1.cls].all goodWord = true := by decide +kernel
set_option maxRecDepth 100000 in
theorem zb_37 : (plainName zm_37.1.1.cls && (decide (zm_37.1.1.cls ≠ "java/lang/invoke/MethodHandle" ∧ zm_37.1.1.cls ≠ "java/lang/invoke/VarHandle") && decide (zm_37.1.2.2.1 ≤ 40))) = true := by decide +kernel
theorem zo_37 : zz_okM zt_hh zp_P zt_cl zt_tf zt_fd zt_nf zt_T zt_N zm_37 := zz_w_okM zw_37 zb_37 (zz_places goodWord zq_37 zg_37)
set_option maxRecDepth 100000 in
theorem zd_38_0 : ∀ r ∈ zl_38_0, decode zm_38.1.2.1 r.1 = .ok (r.2.1, r.2.2.1) := by decide +kernel
set_option maxRecDepth 100000 in
theorem zq_38_0 : (zl_38_0.flatMap (zz_wr zt_hh zp_P zt_cl zm_38.1.1.cls)).map some = ([300, 292, 297, 881, 882, 880, 292, 296, 1007, 1008, 1006, 292, 1039, 1040, 1038, 299, 301] : List Nat).map (fun i => lw_tbl[i]?) := by rfl
set_option maxRecDepth 100000 in
theorem zg_38_0 : (zl_38_0.flatMap (zz_wr zt_hh zp_P zt_cl zm_38.1.1.cls)).all goodWord = true := by decide +kernel
set_option maxRecDepth 100000 in
theorem zr_38_0 : (zl_38_0.flatMap (zz_wn zp_P zm_38.1.1.cls)).map some = ([] : List Nat).map (fun i => lw_tbl[i]?) := by rfl
set_option maxRecDepth 100000 in
theorem zs_38_0 : (zl_38_0.flatMap (zz_wn zp_P zm_38.1.1.cls)).all zz_isN = true := by decide +kernel
set_option maxRecDepth 100000 in
theorem zb_38_0 : zl_38_0.all (fun r => zz_wb zt_hh zp_P zt_cl zt_tf zt_fd zt_nf zm_38.1.1.cls zm_38.1.1.name r) = true := by decide +kernel
set_option maxRecDepth 100000 in
theorem zd_38_1 : ∀ r ∈ zl_38_1, decode zm_38.1.2.1 r.1 = .ok (r.2.1, r.2.2.1) := by decide +kernel
set_option maxRecDepth 100000 in
theorem zq_38_1 : (zl_38_1.flatMap (zz_wr zt_hh zp_P zt_cl zm_38.1.1.cls)).map some = ([298, 302, 301, 298, 302] : List Nat).map (fun i => lw_tbl[i]?) := by rfl
set_option maxRecDepth 100000 in
theorem zg_38_1 : (zl_38_1.flatMap (zz_wr zt_hh zp_P zt_cl zm_38.1.1.cls)).all goodWord = true := by decide +kernel
set_option maxRecDepth 100000 in
theorem zr_38_1 : (zl_38_1.flatMap (zz_wn zp_P zm_38.1.1.cls)).map some = ([] : List Nat).map (fun i => lw_tbl[i]?) := by rfl
set_option maxRecDepth 100000 in
theorem zs_38_1 : (zl_38_1.flatMap (zz_wn zp_P zm_38.1.1.cls)).all zz_isN = true := by decide +kernel
set_option maxRecDepth 100000 in
theorem zb_38_1 : zl_38_1.all (fun r => zz_wb zt_hh zp_P zt_cl zt_tf zt_fd zt_nf zm_38.1.1.cls zm_38.1.1.name r) = true := by decide +kernel
set_option maxRecDepth 100000 in
theorem zy_38_0 : zl_38_0.all (fun r => zz_tb zt_hh zp_P zm_38 r) = true := by decide +kernel
set_option maxRecDepth 100000 in
theorem zy_38_1 : zl_38_1.all (fun r => zz_tb zt_hh zp_P zm_38 r) = true := by decide +kernel
theorem zw_38 : zz_okW zt_hh zp_P zt_cl zt_tf zt_fd zt_nf zt_T zt_N zm_38 := List.forall_mem_cons.mpr ⟨(zz_w_okL zd_38_0 zb_38_0 (zz_places goodWord zq_38_0 zg_38_0) (zz_places zz_isN zr_38_0 zs_38_0) zy_38_0), List.forall_mem_cons.mpr ⟨(zz_w_okL zd_38_1 zb_38_1 (zz_places goodWord zq_38_1 zg_38_1) (zz_places zz_isN zr_38_1 zs_38_1) zy_38_1), (fun _ h => absurd h List.not_mem_nil)⟩⟩
set_option maxRecDepth 100000 in
theorem zq_38 : [zz_cw zt_hh zm_38, Cond.initialized zm_38.1.1.cls].map some = ([1037, 217] : List Nat).map (fun i => lw_tbl[i]?) := by rfl
set_option maxRecDepth 100000 in
theorem zg_38 : [zz_cw zt_hh zm_38, Cond.initialized zm_38.1.1.cls].all goodWord = true := by decide +kernel
set_option maxRecDepth 100000 in
theorem zb_38 : (plainName zm_38.1.1.cls && (decide (zm_38.1.1.cls ≠ "java/lang/invoke/MethodHandle" ∧ zm_38.1.1.cls ≠ "java/lang/invoke/VarHandle") && decide (zm_38.1.2.2.1 ≤ 40))) = true := by decide +kernel
theorem zo_38 : zz_okM zt_hh zp_P zt_cl zt_tf zt_fd zt_nf zt_T zt_N zm_38 := zz_w_okM zw_38 zb_38 (zz_places goodWord zq_38 zg_38)
set_option maxRecDepth 100000 in
theorem zd_39_0 : ∀ r ∈ zl_39_0, decode zm_39.1.2.1 r.1 = .ok (r.2.1, r.2.2.1) := by decide +kernel
set_option maxRecDepth 100000 in
theorem zq_39_0 : (zl_39_0.flatMap (zz_wr zt_hh zp_P zt_cl zm_39.1.1.cls)).map some = ([262, 249, 250, 289, 263, 289, 264, 290, 265] : List Nat).map (fun i => lw_tbl[i]?) := by rfl
set_option maxRecDepth 100000 in
theorem zg_39_0 : (zl_39_0.flatMap (zz_wr zt_hh zp_P zt_cl zm_39.1.1.cls)).all goodWord = true := by decide +kernel
set_option maxRecDepth 100000 in
theorem zr_39_0 : (zl_39_0.flatMap (zz_wn zp_P zm_39.1.1.cls)).map some = ([] : List Nat).map (fun i => lw_tbl[i]?) := by rfl
set_option maxRecDepth 100000 in
theorem zs_39_0 : (zl_39_0.flatMap (zz_wn zp_P zm_39.1.1.cls)).all zz_isN = true := by decide +kernel
set_option maxRecDepth 100000 in
theorem zb_39_0 : zl_39_0.all (fun r => zz_wb zt_hh zp_P zt_cl zt_tf zt_fd zt_nf zm_39.1.1.cls zm_39.1.1.name r) = true := by decide +kernel
set_option maxRecDepth 100000 in
theorem zy_39_0 : zl_39_0.all (fun r => zz_tb zt_hh zp_P zm_39 r) = true := by decide +kernel
theorem zw_39 : zz_okW zt_hh zp_P zt_cl zt_tf zt_fd zt_nf zt_T zt_N zm_39 := List.forall_mem_cons.mpr ⟨(zz_w_okL zd_39_0 zb_39_0 (zz_places goodWord zq_39_0 zg_39_0) (zz_places zz_isN zr_39_0 zs_39_0) zy_39_0), (fun _ h => absurd h List.not_mem_nil)⟩
set_option maxRecDepth 100000 in
theorem zq_39 : [zz_cw zt_hh zm_39, Cond.initialized zm_39.1.1.cls].map some = ([261, 218] : List Nat).map (fun i => lw_tbl[i]?) := by rfl
set_option maxRecDepth 100000 in
theorem zg_39 : [zz_cw zt_hh zm_39, Cond.initialized zm_39.1.1.cls].all goodWord = true := by decide +kernel
set_option maxRecDepth 100000 in
theorem zb_39 : (plainName zm_39.1.1.cls && (decide (zm_39.1.1.cls ≠ "java/lang/invoke/MethodHandle" ∧ zm_39.1.1.cls ≠ "java/lang/invoke/VarHandle") && decide (zm_39.1.2.2.1 ≤ 40))) = true := by decide +kernel
theorem zo_39 : zz_okM zt_hh zp_P zt_cl zt_tf zt_fd zt_nf zt_T zt_N zm_39 := zz_w_okM zw_39 zb_39 (zz_places goodWord zq_39 zg_39)
set_option maxRecDepth 100000 in
theorem zd_40_0 : ∀ r ∈ zl_40_0, decode zm_40.1.2.1 r.1 = .ok (r.2.1, r.2.2.1) := by decide +kernel
set_option maxRecDepth 100000 in
theorem zq_40_0 : (zl_40_0.flatMap (zz_wr zt_hh zp_P zt_cl zm_40.1.1.cls)).map some = ([266, 267, 625, 592, 228, 593, 627, 626, 631, 1, 629, 758, 759, 757] : List Nat).map (fun i => lw_tbl[i]?) := by rfl
set_option maxRecDepth 100000 in
theorem zg_40_0 : (zl_40_0.flatMap (zz_wr zt_hh zp_P zt_cl zm_40.1.1.cls)).all goodWord = true := by decide +kernel
set_option maxRecDepth 100000 in
theorem zr_40_0 : (zl_40_0.flatMap (zz_wn zp_P zm_40.1.1.cls)).map some = ([] : List Nat).map (fun i => lw_tbl[i]?) := by rfl
set_option maxRecDepth 100000 in
theorem zs_40_0 : (zl_40_0.flatMap (zz_wn zp_P zm_40.1.1.cls)).all zz_isN = true := by decide +kernel
set_option maxRecDepth 100000 in
theorem zb_40_0 : zl_40_0.all (fun r => zz_wb zt_hh zp_P zt_cl zt_tf zt_fd zt_nf zm_40.1.1.cls zm_40.1.1.name r) = true := by decide +kernel
set_option maxRecDepth 100000 in
theorem zy_40_0 : zl_40_0.all (fun r => zz_tb zt_hh zp_P zm_40 r) = true := by decide +kernel
theorem zw_40 : zz_okW zt_hh zp_P zt_cl zt_tf zt_fd zt_nf zt_T zt_N zm_40 := List.forall_mem_cons.mpr ⟨(zz_w_okL zd_40_0 zb_40_0 (zz_places goodWord zq_40_0 zg_40_0) (zz_places zz_isN zr_40_0 zs_40_0) zy_40_0), (fun _ h => absurd h List.not_mem_nil)⟩
set_option maxRecDepth 100000 in
theorem zq_40 : [zz_cw zt_hh zm_40, Cond.initialized zm_40.1.1.cls].map some = ([624, 218] : List Nat).map (fun i => lw_tbl[i]?) := by rfl
set_option maxRecDepth 100000 in
theorem zg_40 : [zz_cw zt_hh zm_40, Cond.initialized zm_40.1.1.cls].all goodWord = true := by decide +kernel
set_option maxRecDepth 100000 in
theorem zb_40 : (plainName zm_40.1.1.cls && (decide (zm_40.1.1.cls ≠ "java/lang/invoke/MethodHandle" ∧ zm_40.1.1.cls ≠ "java/lang/invoke/VarHandle") && decide (zm_40.1.2.2.1 ≤ 40))) = true := by decide +kernel
theorem zo_40 : zz_okM zt_hh zp_P zt_cl zt_tf zt_fd zt_nf zt_T zt_N zm_40 := zz_w_okM zw_40 zb_40 (zz_places goodWord zq_40 zg_40)
set_option maxRecDepth 100000 in
theorem zd_41_0 : ∀ r ∈ zl_41_0, decode zm_41.1.2.1 r.1 = .ok (r.2.1, r.2.2.1) := by decide +kernel
set_option maxRecDepth 100000 in
theorem zq_41_0 : (zl_41_0.flatMap (zz_wr zt_hh zp_P zt_cl zm_41.1.1.cls)).map some = ([266] : List Nat).map (fun i => lw_tbl[i]?) := by rfl
set_option maxRecDepth 100000 in
theorem zg_41_0 : (zl_41_0.flatMap (zz_wr zt_hh zp_P zt_cl zm_41.1.1.cls)).all goodWord = true := by decide +kernel
set_option maxRecDepth 100000 in
theorem zr_41_0 : (zl_41_0.flatMap (zz_wn zp_P zm_41.1.1.cls)).map some = ([] : List Nat).map (fun i => lw_tbl[i]?) := by rfl
set_option maxRecDepth 100000 in
theorem zs_41_0 : (zl_41_0.flatMap (zz_wn zp_P zm_41.1.1.cls)).all zz_isN = true := by decide +kernel
set_option maxRecDepth 100000 in
theorem zb_41_0 : zl_41_0.all (fun r => zz_wb zt_hh zp_P zt_cl zt_tf zt_fd zt_nf zm_41.1.1.cls zm_41.1.1.name r) = true := by decide +kernel
set_option maxRecDepth 100000 in
theorem zy_41_0 : zl_41_0.all (fun r => zz_tb zt_hh zp_P zm_41 r) = true := by decide +kernel
theorem zw_41 : zz_okW zt_hh zp_P zt_cl zt_tf zt_fd zt_nf zt_T zt_N zm_41 := List.forall_mem_cons.mpr ⟨(zz_w_okL zd_41_0 zb_41_0 (zz_places goodWord zq_41_0 zg_41_0) (zz_places zz_isN zr_41_0 zs_41_0) zy_41_0), (fun _ h => absurd h List.not_mem_nil)⟩
set_option maxRecDepth 100000 in
theorem zq_41 : [zz_cw zt_hh zm_41, Cond.initialized zm_41.1.1.cls].map some = ([768, 218] : List Nat).map (fun i => lw_tbl[i]?) := by rfl
set_option maxRecDepth 100000 in
theorem zg_41 : [zz_cw zt_hh zm_41, Cond.initialized zm_41.1.1.cls].all goodWord = true := by decide +kernel
set_option maxRecDepth 100000 in
theorem zb_41 : (plainName zm_41.1.1.cls && (decide (zm_41.1.1.cls ≠ "java/lang/invoke/MethodHandle" ∧ zm_41.1.1.cls ≠ "java/lang/invoke/VarHandle") && decide (zm_41.1.2.2.1 ≤ 40))) = true := by decide +kernel
theorem zo_41 : zz_okM zt_hh zp_P zt_cl zt_tf zt_fd zt_nf zt_T zt_N zm_41 := zz_w_okM zw_41 zb_41 (zz_places goodWord zq_41 zg_41)
set_option maxRecDepth 100000 in
theorem zd_42_0 : ∀ r ∈ zl_42_0, decode zm_42.1.2.1 r.1 = .ok (r.2.1, r.2.2.1) := by decide +kernel
set_option maxRecDepth 100000 in
theorem zq_42_0 : (zl_42_0.flatMap (zz_wr zt_hh zp_P zt_cl zm_42.1.1.cls)).map some = ([268] : List Nat).map (fun i => lw_tbl[i]?) := by rfl
set_option maxRecDepth 100000 in
theorem zg_42_0 : (zl_42_0.flatMap (zz_wr zt_hh zp_P zt_cl zm_42.1.1.cls)).all goodWord = true := by decide +kernel
set_option maxRecDepth 100000 in
theorem zr_42_0 : (zl_42_0.flatMap (zz_wn zp_P zm_42.1.1.cls)).map some = ([] : List Nat).map (fun i => lw_tbl[i]?) := by rfl
set_option maxRecDepth 100000 in
theorem zs_42_0 : (zl_42_0.flatMap (zz_wn zp_P zm_42.1.1.cls)).all zz_isN = true := by decide +kernel
set_option maxRecDepth 100000 in
theorem zb_42_0 : zl_42_0.all (fun r => zz_wb zt_hh zp_P zt_cl zt_tf zt_fd zt_nf zm_42.1.1.cls zm_42.1.1.name r) = true := by decide +kernel
set_option maxRecDepth 100000 in
theorem zy_42_0 : zl_42_0.all (fun r => zz_tb zt_hh zp_P zm_42 r) = true := by decide +kernel
theorem zw_42 : zz_okW zt_hh zp_P zt_cl zt_tf zt_fd zt_nf zt_T zt_N zm_42 := List.forall_mem_cons.mpr ⟨(zz_w_okL zd_42_0 zb_42_0 (zz_places goodWord zq_42_0 zg_42_0) (zz_places zz_isN zr_42_0 zs_42_0) zy_42_0), (fun _ h => absurd h List.not_mem_nil)⟩
set_option maxRecDepth 100000 in
theorem zq_42 : [zz_cw zt_hh zm_42, Cond.initialized zm_42.1.1.cls].map some = ([772, 218] : List Nat).map (fun i => lw_tbl[i]?) := by rfl
set_option maxRecDepth 100000 in
theorem zg_42 : [zz_cw zt_hh zm_42, Cond.initialized zm_42.1.1.cls].all goodWord = true := by decide +kernel
set_option maxRecDepth 100000 in
theorem zb_42 : (plainName zm_42.1.1.cls && (decide (zm_42.1.1.cls ≠ "java/lang/invoke/MethodHandle" ∧ zm_42.1.1.cls ≠ "java/lang/invoke/VarHandle") && decide (zm_42.1.2.2.1 ≤ 40))) = true := by decide +kernel
theorem zo_42 : zz_okM zt_hh zp_P zt_cl zt_tf zt_fd zt_nf zt_T zt_N zm_42 := zz_w_okM zw_42 zb_42 (zz_places goodWord zq_42 zg_42)
set_option maxRecDepth 100000 in
theorem zd_43_0 : ∀ r ∈ zl_43_0, decode zm_43.1.2.1 r.1 = .ok (r.2.1, r.2.2.1) := by decide +kernel
set_option maxRecDepth 100000 in
theorem zq_43_0 : (zl_43_0.flatMap (zz_wr zt_hh zp_P zt_cl zm_43.1.1.cls)).map some = ([] : List Nat).map (fun i => lw_tbl[i]?) := by rfl
set_option maxRecDepth 100000 in
theorem zg_43_0 : (zl_43_0.flatMap (zz_wr zt_hh zp_P zt_cl zm_43.1.1.cls)).all goodWord = true := by decide +kernel
set_option maxRecDepth 100000 in
theorem zr_43_0 : (zl_43_0.flatMap (zz_wn zp_P zm_43.1.1.cls)).map some = ([] : List Nat).map (fun i => lw_tbl[i]?) := by rfl
set_option maxRecDepth 100000 in
theorem zs_43_0 : (zl_43_0.flatMap (zz_wn zp_P zm_43.1.1.cls)).all zz_isN = true := by decide +kernel
set_option maxRecDepth 100000 in
theorem zb_43_0 : zl_43_0.all (fun r => zz_wb zt_hh zp_P zt_cl zt_tf zt_fd zt_nf zm_43.1.1.cls zm_43.1.1.name r) = true := by decide +kernel
set_option maxRecDepth 100000 in
theorem zy_43_0 : zl_43_0.all (fun r => zz_tb zt_hh zp_P zm_43 r) = true := by decide +kernel
theorem zw_43 : zz_okW zt_hh zp_P zt_cl zt_tf zt_fd zt_nf zt_T zt_N zm_43 := List.forall_mem_cons.mpr ⟨(zz_w_okL zd_43_0 zb_43_0 (zz_places goodWord zq_43_0 zg_43_0) (zz_places zz_isN zr_43_0 zs_43_0) zy_43_0), (fun _ h => absurd h List.not_mem_nil)⟩
set_option maxRecDepth 100000 in
theorem zq_43 : [zz_cw zt_hh zm_43, Cond.initialized zm_43.1.1.cls].map some = ([628, 218] : List Nat).map (fun i => lw_tbl[i]?) := by rfl
set_option maxRecDepth 100000 in
theorem zg_43 : [zz_cw zt_hh zm_43, Cond.initialized zm_43.1.1.cls].all goodWord = true := by decide +kernel
set_option maxRecDepth 100000 in
theorem zb_43 : (plainName zm_43.1.1.cls && (decide (zm_43.1.1.cls ≠ "java/lang/invoke/MethodHandle" ∧ zm_43.1.1.cls ≠ "java/lang/invoke/VarHandle") && decide (zm_43.1.2.2.1 ≤ 40))) = true := by decide +kernel
theorem zo_43 : zz_okM zt_hh zp_P zt_cl zt_tf zt_fd zt_nf zt_T zt_N zm_43 := zz_w_okM zw_43 zb_43 (zz_places goodWord zq_43 zg_43)
set_option maxRecDepth 100000 in
theorem zd_44_0 : ∀ r ∈ zl_44_0, decode zm_44.1.2.1 r.1 = .ok (r.2.1, r.2.2.1) := by decide +kernel
set_option maxRecDepth 100000 in
theorem zq_44_0 : (zl_44_0.flatMap (zz_wr zt_hh zp_P zt_cl zm_44.1.1.cls)).map some = ([635, 2, 633, 655, 3, 653, 666, 4, 664] : List Nat).map (fun i => lw_tbl[i]?) := by rfl
set_option maxRecDepth 100000 in
theorem zg_44_0 : (zl_44_0.flatMap (zz_wr zt_hh zp_P zt_cl zm_44.1.1.cls)).all goodWord = true := by decide +kernel
set_option maxRecDepth 100000 in
theorem zr_44_0 : (zl_44_0.flatMap (zz_wn zp_P zm_44.1.1.cls)).map some = ([] : List Nat).map (fun i => lw_tbl[i]?) := by rfl
set_option maxRecDepth 100000 in
theorem zs_44_0 : (zl_44_0.flatMap (zz_wn zp_P zm_44.1.1.cls)).all zz_isN = true := by decide +kernel
set_option maxRecDepth 100000 in
theorem zb_44_0 : zl_44_0.all (fun r => zz_wb zt_hh zp_P zt_cl zt_tf zt_fd zt_nf zm_44.1.1.cls zm_44.1.1.name r) = true := by decide +kernel
set_option maxRecDepth 100000 in
theorem zd_44_1 : ∀ r ∈ zl_44_1, decode zm_44.1.2.1 r.1 = .ok (r.2.1, r.2.2.1) := by decide +kernel
set_option maxRecDepth 100000 in
theorem zq_44_1 : (zl_44_1.flatMap (zz_wr zt_hh zp_P zt_cl zm_44.1.1.cls)).map some = ([673, 674, 672, 635, 2, 633, 673, 674, 672, 635, 2, 633] : List Nat).map (fun i => lw_tbl[i]?) := by rfl
set_option maxRecDepth 100000 in
theorem zg_44_1 : (zl_44_1.flatMap (zz_wr zt_hh zp_P zt_cl zm_44.1.1.cls)).all goodWord = true := by decide +kernel
set_option maxRecDepth 100000 in
theorem zr_44_1 : (zl_44_1.flatMap (zz_wn zp_P zm_44.1.1.cls)).map some = ([] : List Nat).map (fun i => lw_tbl[i]?) := by rfl
set_option maxRecDepth 100000 in
theorem zs_44_1 : (zl_44_1.flatMap (zz_wn zp_P zm_44.1.1.cls)).all zz_isN = true := by decide +kernel
set_option maxRecDepth 100000 in
theorem zb_44_1 : zl_44_1.all (fun r => zz_wb zt_hh zp_P zt_cl zt_tf zt_fd zt_nf zm_44.1.1.cls zm_44.1.1.name r) = true := by decide +kernel
set_option maxRecDepth 100000 in
theorem zd_44_2 : ∀ r ∈ zl_44_2, decode zm_44.1.2.1 r.1 = .ok (r.2.1, r.2.2.1) := by decide +kernel
set_option maxRecDepth 100000 in
theorem zq_44_2 : (zl_44_2.flatMap (zz_wr zt_hh zp_P zt_cl zm_44.1.1.cls)).map some = ([635, 2, 633] : List Nat).map (fun i => lw_tbl[i]?) := by rfl
set_option maxRecDepth 100000 in
theorem zg_44_2 : (zl_44_2.flatMap (zz_wr zt_hh zp_P zt_cl zm_44.1.1.cls)).all goodWord = true := by decide +kernel
set_option maxRecDepth 100000 in
theorem zr_44_2 : (zl_44_2.flatMap (zz_wn zp_P zm_44.1.1.cls)).map some = ([] : List Nat).map (fun i => lw_tbl[i]?) := by rfl
set_option maxRecDepth 100000 in
theorem zs_44_2 : (zl_44_2.flatMap (zz_wn zp_P zm_44.1.1.cls)).all zz_isN = true := by decide +kernel
set_option maxRecDepth 100000 in
theorem zb_44_2 : zl_44_2.all (fun r => zz_wb zt_hh zp_P zt_cl zt_tf zt_fd zt_nf zm_44.1.1.cls zm_44.1.1.name r) = true := by decide +kernel
set_option maxRecDepth 100000 in
theorem zy_44_0 : zl_44_0.all (fun r => zz_tb zt_hh zp_P zm_44 r) = true := by decide +kernel
set_option maxRecDepth 100000 in
theorem zy_44_1 : zl_44_1.all (fun r => zz_tb zt_hh zp_P zm_44 r) = true := by decide +kernel
set_option maxRecDepth 100000 in
theorem zy_44_2 : zl_44_2.all (fun r => zz_tb zt_hh zp_P zm_44 r) = true := by decide +kernel
theorem zw_44 : zz_okW zt_hh zp_P zt_cl zt_tf zt_fd zt_nf zt_T zt_N zm_44 := List.forall_mem_cons.mpr ⟨(zz_w_okL zd_44_0 zb_44_0 (zz_places goodWord zq_44_0 zg_44_0) (zz_places zz_isN zr_44_0 zs_44_0) zy_44_0), List.forall_mem_cons.mpr ⟨(zz_w_okL zd_44_1 zb_44_1 (zz_places goodWord zq_44_1 zg_44_1) (zz_places zz_isN zr_44_1 zs_44_1) zy_44_1), List.forall_mem_cons.mpr ⟨(zz_w_okL zd_44_2 zb_44_2 (zz_places goodWord zq_44_2 zg_44_2) (zz_places zz_isN zr_44_2 zs_44_2) zy_44_2), (fun _ h => absurd h List.not_mem_nil)⟩⟩⟩
set_option maxRecDepth 100000 in
theorem zq_44 : [zz_cw zt_hh zm_44, Cond.initialized zm_44.1.1.cls].map some = ([632, 218] : List Nat).map (fun i => lw_tbl[i]?) := by rfl
set_option maxRecDepth 100000 in
theorem zg_44 : [zz_cw zt_hh zm_44, Cond.initialized zm_44.1.1.cls].all goodWord = true := by decide +kernel
set_option maxRecDepth 100000 in
theorem zb_44 : (plainName zm_44.1.1.cls && (decide (zm_44.1.1.cls ≠ "java/lang/invoke/MethodHandle" ∧ zm_44.1.1.cls ≠ "java/lang/invoke/VarHandle") && decide (zm_44.1.2.2.1 ≤ 40))) = true := by decide +kernel
theorem zo_44 : zz_okM zt_hh zp_P zt_cl zt_tf zt_fd zt_nf zt_T zt_N zm_44 := zz_w_okM zw_44 zb_44 (zz_places goodWord zq_44 zg_44)
set_option maxRecDepth 100000 in
theorem zd_45_0 : ∀ r ∈ zl_45_0, decode zm_45.1.2.1 r.1 = .ok (r.2.1, r.2.2.1) := by decide +kernel
set_option maxRecDepth 100000 in
theorem zq_45_0 : (zl_45_0.flatMap (zz_wr zt_hh zp_P zt_cl zm_45.1.1.cls)).map some = ([266, 263, 263, 266, 638, 637, 263, 264, 266, 638, 637, 264, 265, 266, 646, 645, 265, 263, 266] : List Nat).map (fun i => lw_tbl[i]?) := by rfl
set_option maxRecDepth 100000 in
theorem zg_45_0 : (zl_45_0.flatMap (zz_wr zt_hh zp_P zt_cl zm_45.1.1.cls)).all goodWord = true := by decide +kernel
set_option maxRecDepth 100000 in
theorem zr_45_0 : (zl_45_0.flatMap (zz_wn zp_P zm_45.1.1.cls)).map some = ([] : List Nat).map (fun i => lw_tbl[i]?) := by rfl
set_option maxRecDepth 100000 in
theorem zs_45_0 : (zl_45_0.flatMap (zz_wn zp_P zm_45.1.1.cls)).all zz_isN = true := by decide +kernel
set_option maxRecDepth 100000 in
theorem zb_45_0 : zl_45_0.all (fun r => zz_wb zt_hh zp_P zt_cl zt_tf zt_fd zt_nf zm_45.1.1.cls zm_45.1.1.name r) = true := by decide +kernel
set_option maxRecDepth 100000 in
theorem zd_45_1 : ∀ r ∈ zl_45_1, decode zm_45.1.2.1 r.1 = .ok (r.2.1, r.2.2.1) := by decide +kernel
set_option maxRecDepth 100000 in
theorem zq_45_1 : (zl_45_1.flatMap (zz_wr zt_hh zp_P zt_cl zm_45.1.1.cls)).map some = ([264, 266, 265, 266, 266, 266] : List Nat).map (fun i => lw_tbl[i]?) := by rfl
set_option maxRecDepth 100000 in
theorem zg_45_1 : (zl_45_1.flatMap (zz_wr zt_hh zp_P zt_cl zm_45.1.1.cls)).all goodWord = true := by decide +kernel
set_option maxRecDepth 100000 in
theorem zr_45_1 : (zl_45_1.flatMap (zz_wn zp_P zm_45.1.1.cls)).map some = ([] : List Nat).map (fun i => lw_tbl[i]?) := by rfl
set_option maxRecDepth 100000 in
theorem zs_45_1 : (zl_45_1.flatMap (zz_wn zp_P zm_45.1.1.cls)).all zz_isN = true := by decide +kernel
set_option maxRecDepth 100000 in
theorem zb_45_1 : zl_45_1.all (fun r => zz_wb zt_hh zp_P zt_cl zt_tf zt_fd zt_nf zm_45.1.1.cls zm_45.1.1.name r) = true := by decide +kernel
set_option maxRecDepth 100000 in
theorem zy_45_0 : zl_45_0.all (fun r => zz_tb zt_hh zp_P zm_45 r) = true := by decide +kernel
set_option maxRecDepth 100000 in
theorem zy_45_1 : zl_45_1.all (fun r => zz_tb zt_hh zp_P zm_45 r) = true := by decide +kernel
theorem zw_45 : zz_okW zt_hh zp_P zt_cl zt_tf zt_fd zt_nf zt_T zt_N zm_45 := List.forall_mem_cons.mpr ⟨(zz_w_okL zd_45_0 zb_45_0 (zz_places goodWord zq_45_0 zg_45_0) (zz_places zz_isN zr_45_0 zs_45_0) zy_45_0), List.forall_mem_cons.mpr ⟨(zz_w_okL zd_45_1 zb_45_1 (zz_places goodWord zq_45_1 zg_45_1) (zz_places zz_isN zr_45_1 zs_45_1) zy_45_1), (fun _ h => absurd h List.not_mem_nil)⟩⟩
set_option maxRecDepth 100000 in
theorem zq_45 : [zz_cw zt_hh zm_45, Cond.initialized zm_45.1.1.cls].map some = ([636, 218] : List Nat).map (fun i => lw_tbl[i]?) := by rfl
set_option maxRecDepth 100000 in
theorem zg_45 : [zz_cw zt_hh zm_45, Cond.initialized zm_45.1.1.cls].all goodWord = true := by decide +kernel
set_option maxRecDepth 100000 in
theorem zb_45 : (plainName zm_45.1.1.cls && (decide (zm_45.1.1.cls ≠ "java/lang/invoke/MethodHandle" ∧ zm_45.1.1.cls ≠ "java/lang/invoke/VarHandle") && decide (zm_45.1.2.2.1 ≤ 40))) = true := by decide +kernel
theorem zo_45 : zz_okM zt_hh zp_P zt_cl zt_tf zt_fd zt_nf zt_T zt_N zm_45 := zz_w_okM zw_45 zb_45 (zz_places goodWord zq_45 zg_45)
set_option maxRecDepth 100000 in
theorem zd_46_0 : ∀ r ∈ zl_46_0, decode zm_46.1.2.1 r.1 = .ok (r.2.1, r.2.2.1) := by decide +kernel
set_option maxRecDepth 100000 in
theorem zq_46_0 : (zl_46_0.flatMap (zz_wr zt_hh zp_P zt_cl zm_46.1.1.cls)).map some = ([267, 266, 625, 592, 228, 593, 267, 267, 267, 266, 263, 267, 268, 264, 267, 269, 265, 267, 270] : List Nat).map (fun i => lw_tbl[i]?) := by rfl
set_option maxRecDepth 100000 in
theorem zg_46_0 : (zl_46_0.flatMap (zz_wr zt_hh zp_P zt_cl zm_46.1.1.cls)).all goodWord = true := by decide +kernel
set_option maxRecDepth 100000 in
theorem zr_46_0 : (zl_46_0.flatMap (zz_wn zp_P zm_46.1.1.cls)).map some = ([] : List Nat).map (fun i => lw_tbl[i]?) := by rfl
set_option maxRecDepth 100000 in
theorem zs_46_0 : (zl_46_0.flatMap (zz_wn zp_P zm_46.1.1.cls)).all zz_isN = true := by decide +kernel
set_option maxRecDepth 100000 in
theorem zb_46_0 : zl_46_0.all (fun r => zz_wb zt_hh zp_P zt_cl zt_tf zt_fd zt_nf zm_46.1.1.cls zm_46.1.1.name r) = true := by decide +kernel
set_option maxRecDepth 100000 in
theorem zd_46_1 : ∀ r ∈ zl_46_1, decode zm_46.1.2.1 r.1 = .ok (r.2.1, r.2.2.1) := by decide +kernel
set_option maxRecDepth 100000 in
theorem zq_46_1 : (zl_46_1.flatMap (zz_wr zt_hh zp_P zt_cl zm_46.1.1.cls)).map some = ([] : List Nat).map (fun i => lw_tbl[i]?) := by rfl
set_option maxRecDepth 100000 in
theorem zg_46_1 : (zl_46_1.flatMap (zz_wr zt_hh zp_P zt_cl zm_46.1.1.cls)).all goodWord = true := by decide +kernel
set_option maxRecDepth 100000 in
theorem zr_46_1 : (zl_46_1.flatMap (zz_wn zp_P zm_46.1.1.cls)).map some = ([] : List Nat).map (fun i => lw_tbl[i]?) := by rfl
set_option maxRecDepth 100000 in
theorem zs_46_1 : (zl_46_1.flatMap (zz_wn zp_P zm_46.1.1.cls)).all zz_isN = true := by decide +kernel
set_option maxRecDepth 100000 in
theorem zb_46_1 : zl_46_1.all (fun r => zz_wb zt_hh zp_P zt_cl zt_tf zt_fd zt_nf zm_46.1.1.cls zm_46.1.1.name r) = true := by decide +kernel
set_option maxRecDepth 100000 in
theorem zy_46_0 : zl_46_0.all (fun r => zz_tb zt_hh zp_P zm_46 r) = true := by decide +kernel
set_option maxRecDepth 100000 in
theorem zy_46_1 : zl_46_1.all (fun r => zz_tb zt_hh zp_P zm_46 r) = true := by decide +kernel
theorem zw_46 : zz_okW zt_hh zp_P zt_cl zt_tf zt_fd zt_nf zt_T zt_N zm_46 := List.forall_mem_cons.mpr ⟨(zz_w_okL zd_46_0 zb_46_0 (zz_places goodWord zq_46_0 zg_46_0) (zz_places zz_isN zr_46_0 zs_46_0) zy_46_0), List.forall_mem_cons.mpr ⟨(zz_w_okL zd_46_1 zb_46_1 (zz_places goodWord zq_46_1 zg_46_1) (zz_places zz_isN zr_46_1 zs_46_1) zy_46_1), (fun _ h => absurd h List.not_mem_nil)⟩⟩
set_option maxRecDepth 100000 in
theorem zq_46 : [zz_cw zt_hh zm_46, Cond.initialized zm_46.1.1.cls].map some = ([760, 218] : List Nat).map (fun i => lw_tbl[i]?) := by rfl
set_option maxRecDepth 100000 in
theorem zg_46 : [zz_cw zt_hh zm_46, Cond.initialized zm_46.1.1.cls].all goodWord = true := by decide +kernel
set_option maxRecDepth 100000 in
theorem zb_46 : (plainName zm_46.1.1.cls && (decide (zm_46.1.1.cls ≠ "java/lang/invoke/MethodHandle" ∧ zm_46.1.1.cls ≠ "java/lang/invoke/VarHandle") && decide (zm_46.1.2.2.1 ≤ 40))) = true := by decide +kernel
theorem zo_46 : zz_okM zt_hh zp_P zt_cl zt_tf zt_fd zt_nf zt_T zt_N zm_46 := zz_w_okM zw_46 zb_46 (zz_places goodWord zq_46 zg_46)
set_option maxRecDepth 100000 in
theorem zd_47_0 : ∀ r ∈ zl_47_0, decode zm_47.1.2.1 r.1 = .ok (r.2.1, r.2.2.1) := by decide +kernel
set_option maxRecDepth 100000 in
theorem zq_47_0 : (zl_47_0.flatMap (zz_wr zt_hh zp_P zt_cl zm_47.1.1.cls)).map some = ([389, 249, 250, 290, 390, 290, 392] : List Nat).map (fun i => lw_tbl[i]?) := by rfl
set_option maxRecDepth 100000 in
theorem zg_47_0 : (zl_47_0.flatMap (zz_wr zt_hh zp_P zt_cl zm_47.1.1.cls)).all goodWord = true := by decide +kernel
set_option maxRecDepth 100000 in
theorem zr_47_0 : (zl_47_0.flatMap (zz_wn zp_P zm_47.1.1.cls)).map some = ([] : List Nat).map (fun i => lw_tbl[i]?) := by rfl
set_option maxRecDepth 100000 in
theorem zs_47_0 : (zl_47_0.flatMap (zz_wn zp_P zm_47.1.1.cls)).all zz_isN = true := by decide +kernel
set_option maxRecDepth 100000 in
theorem zb_47_0 : zl_47_0.all (fun r => zz_wb zt_hh zp_P zt_cl zt_tf zt_fd zt_nf zm_47.1.1.cls zm_47.1.1.name r) = true := by decide +kernel
set_option maxRecDepth 100000 in
theorem zy_47_0 : zl_47_0.all (fun r => zz_tb zt_hh zp_P zm_47 r) = true := by decide +kernel
theorem zw_47 : zz_okW zt_hh zp_P zt_cl zt_tf zt_fd zt_nf zt_T zt_N zm_47 := List.forall_mem_cons.mpr ⟨(zz_w_okL zd_47_0 zb_47_0 (zz_places goodWord zq_47_0 zg_47_0) (zz_places zz_isN zr_47_0 zs_47_0) zy_47_0), (fun _ h => absurd h List.not_mem_nil)⟩
set_option maxRecDepth 100000 in
theorem zq_47 : [zz_cw zt_hh zm_47, Cond.initialized zm_47.1.1.cls].map some = ([388, 221] : List Nat).map (fun i => lw_tbl[i]?) := by rfl
set_option maxRecDepth 100000 in
theorem zg_47 : [zz_cw zt_hh zm_47, Cond.initialized zm_47.1.1.cls].all goodWord = true := by decide +kernel
set_option maxRecDepth 100000 in
theorem zb_47 : (plainName zm_47.1.1.cls && (decide (zm_47.1.1.cls ≠ "java/lang/invoke/MethodHandle" ∧ zm_47.1.1.cls ≠ "java/lang/invoke/VarHandle") && decide (zm_47.1.2.2.1 ≤ 40))) = true := by decide +kernel
theorem zo_47 : zz_okM zt_hh zp_P zt_cl zt_tf zt_fd zt_nf zt_T zt_N zm_47 := zz_w_okM zw_47 zb_47 (zz_places goodWord zq_47 zg_47)
set_option maxRecDepth 100000 in
theorem zd_48_0 : ∀ r ∈ zl_48_0, decode zm_48.1.2.1 r.1 = .ok (r.2.1, r.2.2.1) := by decide +kernel
set_option maxRecDepth 100000 in
theorem zq_48_0 : (zl_48_0.flatMap (zz_wr zt_hh zp_P zt_cl zm_48.1.1.cls)).map some = ([408, 249, 250, 288, 409, 288, 411] : List Nat).map (fun i => lw_tbl[i]?) := by rfl
set_option maxRecDepth 100000 in
theorem zg_48_0 : (zl_48_0.flatMap (zz_wr zt_hh zp_P zt_cl zm_48.1.1.cls)).all goodWord = true := by decide +kernel
set_option maxRecDepth 100000 in
theorem zr_48_0 : (zl_48_0.flatMap (zz_wn zp_P zm_48.1.1.cls)).map some = ([] : List Nat).map (fun i => lw_tbl[i]?) := by rfl
set_option maxRecDepth 100000 in
theorem zs_48_0 : (zl_48_0.flatMap (zz_wn zp_P zm_48.1.1.cls)).all zz_isN = true := by decide +kernel
set_option maxRecDepth 100000 in
theorem zb_48_0 : zl_48_0.all (fun r => zz_wb zt_hh zp_P zt_cl zt_tf zt_fd zt_nf zm_48.1.1.cls zm_48.1.1.name r) = true := by decide +kernel
set_option maxRecDepth 100000 in
theorem zy_48_0 : zl_48_0.all (fun r => zz_tb zt_hh zp_P zm_48 r) = true := by decide +kernel
theorem zw_48 : zz_okW zt_hh zp_P zt_cl zt_tf zt_fd zt_nf zt_T zt_N zm_48 := List.forall_mem_cons.mpr ⟨(zz_w_okL zd_48_0 zb_48_0 (zz_places goodWord zq_48_0 zg_48_0) (zz_places zz_isN zr_48_0 zs_48_0) zy_48_0), (fun _ h => absurd h List.not_mem_nil)⟩
set_option maxRecDepth 100000 in
theorem zq_48 : [zz_cw zt_hh zm_48, Cond.initialized zm_48.1.1.cls].map some = ([407, 222] : List Nat).map (fun i => lw_tbl[i]?) := by rfl
set_option maxRecDepth 100000 in
theorem zg_48 : [zz_cw zt_hh zm_48, Cond.initialized zm_48.1.1.cls].all goodWord = true := by decide +kernel
set_option maxRecDepth 100000 in
theorem zb_48 : (plainName zm_48.1.1.cls && (decide (zm_48.1.1.cls ≠ "java/lang/invoke/MethodHandle" ∧ zm_48.1.1.cls ≠ "java/lang/invoke/VarHandle") && decide (zm_48.1.2.2.1 ≤ 40))) = true := by decide +kernel
theorem zo_48 : zz_okM zt_hh zp_P zt_cl zt_tf zt_fd zt_nf zt_T zt_N zm_48 := zz_w_okM zw_48 zb_48 (zz_places goodWord zq_48 zg_48)
set_option maxRecDepth 100000 in
theorem zd_49_0 : ∀ r ∈ zl_49_0, decode zm_49.1.2.1 r.1 = .ok (r.2.1, r.2.2.1) := by decide +kernel
set_option maxRecDepth 100000 in
theorem zq_49_0 : (zl_49_0.flatMap (zz_wr zt_hh zp_P zt_cl zm_49.1.1.cls)).map some = ([410, 409, 409] : List Nat).map (fun i => lw_tbl[i]?) := by rfl
set_option maxRecDepth 100000 in
theorem zg_49_0 : (zl_49_0.flatMap (zz_wr zt_hh zp_P zt_cl zm_49.1.1.cls)).all goodWord = true := by decide +kernel
set_option maxRecDepth 100000 in
theorem zr_49_0 : (zl_49_0.flatMap (zz_wn zp_P zm_49.1.1.cls)).map some = ([] : List Nat).map (fun i => lw_tbl[i]?) := by rfl
set_option maxRecDepth 100000 in
theorem zs_49_0 : (zl_49_0.flatMap (zz_wn zp_P zm_49.1.1.cls)).all zz_isN = true := by decide +kernel
set_option maxRecDepth 100000 in
theorem zb_49_0 : zl_49_0.all (fun r => zz_wb zt_hh zp_P zt_cl zt_tf zt_fd zt_nf zm_49.1.1.cls zm_49.1.1.name r) = true := by decide +kernel
set_option maxRecDepth 100000 in
theorem zy_49_0 : zl_49_0.all (fun r => zz_tb zt_hh zp_P zm_49 r) = true := by decide +kernel
theorem zw_49 : zz_okW zt_hh zp_P zt_cl zt_tf zt_fd zt_nf zt_T zt_N zm_49 := List.forall_mem_cons.mpr ⟨(zz_w_okL zd_49_0 zb_49_0 (zz_places goodWord zq_49_0 zg_49_0) (zz_places zz_isN zr_49_0 zs_49_0) zy_49_0), (fun _ h => absurd h List.not_mem_nil)⟩
set_option maxRecDepth 100000 in
theorem zq_49 : [zz_cw zt_hh zm_49, Cond.initialized zm_49.1.1.cls].map some = ([1645, 222] : List Nat).map (fun i => lw_tbl[i]?) := by rfl
set_option maxRecDepth 100000 in
theorem zg_49 : [zz_cw zt_hh zm_49, Cond.initialized zm_49.1.1.cls].all goodWord = true := by decide +kernel
set_option maxRecDepth 100000 in
theorem zb_49 : (plainName zm_49.1.1.cls && (decide (zm_49.1.1.cls ≠ "java/lang/invoke/MethodHandle" ∧ zm_49.1.1.cls ≠ "java/lang/invoke/VarHandle") && decide (zm_49.1.2.2.1 ≤ 40))) = true := by decide +kernel
theorem zo_49 : zz_okM zt_hh zp_P zt_cl zt_tf zt_fd zt_nf zt_T zt_N zm_49 := zz_w_okM zw_49 zb_49 (zz_places goodWord zq_49 zg_49)
set_option maxRecDepth 100000 in
theorem zd_50_0 : ∀ r ∈ zl_50_0, decode zm_50.1.2.1 r.1 = .ok (r.2.1, r.2.2.1) := by decide +kernel
set_option maxRecDepth 100000 in
theorem zq_50_0 : (zl_50_0.flatMap (zz_wr zt_hh zp_P zt_cl zm_50.1.1.cls)).map some = ([410] : List Nat).map (fun i => lw_tbl[i]?) := by rfl
set_option maxRecDepth 100000 in
theorem zg_50_0 : (zl_50_0.flatMap (zz_wr zt_hh zp_P zt_cl zm_50.1.1.cls)).all goodWord = true := by decide +kernel
set_option maxRecDepth 100000 in
theorem zr_50_0 : (zl_50_0.flatMap (zz_wn zp_P zm_50.1.1.cls)).map some = ([] : List Nat).map (fun i => lw_tbl[i]?) := by rfl
set_option maxRecDepth 100000 in
theorem zs_50_0 : (zl_50_0.flatMap (zz_wn zp_P zm_50.1.1.cls)).all zz_isN = true := by decide +kernel
set_option maxRecDepth 100000 in
theorem zb_50_0 : zl_50_0.all (fun r => zz_wb zt_hh zp_P zt_cl zt_tf zt_fd zt_nf zm_50.1.1.cls zm_50.1.1.name r) = true := by decide +kernel
set_option maxRecDepth 100000 in
theorem zy_50_0 : zl_50_0.all (fun r => zz_tb zt_hh zp_P zm_50 r) = true := by decide +kernel
theorem zw_50 : zz_okW zt_hh zp_P zt_cl zt_tf zt_fd zt_nf zt_T zt_N zm_50 := List.forall_mem_cons.mpr ⟨(zz_w_okL zd_50_0 zb_50_0 (zz_places goodWord zq_50_0 zg_50_0) (zz_places zz_isN zr_50_0 zs_50_0) zy_50_0), (fun _ h => absurd h List.not_mem_nil)⟩
set_option maxRecDepth 100000 in
theorem zq_50 : [zz_cw zt_hh zm_50, Cond.initialized zm_50.1.1.cls].map some = ([1653, 222] : List Nat).map (fun i => lw_tbl[i]?) := by rfl
set_option maxRecDepth 100000 in
theorem zg_50 : [zz_cw zt_hh zm_50, Cond.initialized zm_50.1.1.cls].all goodWord = true := by decide +kernel
set_option maxRecDepth 100000 in
theorem zb_50 : (plainName zm_50.1.1.cls && (decide (zm_50.1.1.cls ≠ "java/lang/invoke/MethodHandle" ∧ zm_50.1.1.cls ≠ "java/lang/invoke/VarHandle") && decide (zm_50.1.2.2.1 ≤ 40))) = true := by decide +kernel
theorem zo_50 : zz_okM zt_hh zp_P zt_cl zt_tf zt_fd zt_nf zt_T zt_N zm_50 := zz_w_okM zw_50 zb_50 (zz_places goodWord zq_50 zg_50)
set_option maxRecDepth 100000 in
theorem zd_51_0 : ∀ r ∈ zl_51_0, decode zm_51.1.2.1 r.1 = .ok (r.2.1, r.2.2.1) := by decide +kernel
set_option maxRecDepth 100000 in
theorem zq_51_0 : (zl_51_0.flatMap (zz_wr zt_hh zp_P zt_cl zm_51.1.1.cls)).map some = ([424, 249, 250, 432] : List Nat).map (fun i => lw_tbl[i]?) := by rfl
set_option maxRecDepth 100000 in
theorem zg_51_0 : (zl_51_0.flatMap (zz_wr zt_hh zp_P zt_cl zm_51.1.1.cls)).all goodWord = true := by decide +kernel
set_option maxRecDepth 100000 in
theorem zr_51_0 : (zl_51_0.flatMap (zz_wn zp_P zm_51.1.1.cls)).map some = ([] : List Nat).map (fun i => lw_tbl[i]?) := by rfl
set_option maxRecDepth 100000 in
theorem zs_51_0 : (zl_51_0.flatMap (zz_wn zp_P zm_51.1.1.cls)).all zz_isN = true := by decide +kernel
set_option maxRecDepth 100000 in
theorem zb_51_0 : zl_51_0.all (fun r => zz_wb zt_hh zp_P zt_cl zt_tf zt_fd zt_nf zm_51.1.1.cls zm_51.1.1.name r) = true := by decide +kernel
set_option maxRecDepth 100000 in
theorem zy_51_0 : zl_51_0.all (fun r => zz_tb zt_hh zp_P zm_51 r) = true := by decide +kernel
theorem zw_51 : zz_okW zt_hh zp_P zt_cl zt_tf zt_fd zt_nf zt_T zt_N zm_51 := List.forall_mem_cons.mpr ⟨(zz_w_okL zd_51_0 zb_51_0 (zz_places goodWord zq_51_0 zg_51_0) (zz_places zz_isN zr_51_0 zs_51_0) zy_51_0), (fun _ h => absurd h List.not_mem_nil)⟩
set_option maxRecDepth 100000 in
theorem zq_51 : [zz_cw zt_hh zm_51, Cond.initialized zm_51.1.1.cls].map some = ([423, 223] : List Nat).map (fun i => lw_tbl[i]?) := by rfl
set_option maxRecDepth 100000 in
theorem zg_51 : [zz_cw zt_hh zm_51, Cond.initialized zm_51.1.1.cls].all goodWord = true := by decide +kernel
set_option maxRecDepth 100000 in
theorem zb_51 : (plainName zm_51.1.1.cls && (decide (zm_51.1.1.cls ≠ "java/lang/invoke/MethodHandle" ∧ zm_51.1.1.cls ≠ "java/lang/invoke/VarHandle") && decide (zm_51.1.2.2.1 ≤ 40))) = true := by decide +kernel
theorem zo_51 : zz_okM zt_hh zp_P zt_cl zt_tf zt_fd zt_nf zt_T zt_N zm_51 := zz_w_okM zw_51 zb_51 (zz_places goodWord zq_51 zg_51)
set_option maxRecDepth 100000 in
theorem zd_52_0 : ∀ r ∈ zl_52_0, decode zm_52.1.2.1 r.1 = .ok (r.2.1, r.2.2.1) := by decide +kernel
set_option maxRecDepth 100000 in
theorem zq_52_0 : (zl_52_0.flatMap (zz_wr zt_hh zp_P zt_cl zm_52.1.1.cls)).map some = ([425, 431, 432, 433, 427, 428, 429, 430] : List Nat).map (fun i => lw_tbl[i]?) := by rfl
set_option maxRecDepth 100000 in
theorem zg_52_0 : (zl_52_0.flatMap (zz_wr zt_hh zp_P zt_cl zm_52.1.1.cls)).all goodWord = true := by decide +kernel
set_option maxRecDepth 100000 in
theorem zr_52_0 : (zl_52_0.flatMap (zz_wn zp_P zm_52.1.1.cls)).map some = ([] : List Nat).map (fun i => lw_tbl[i]?) := by rfl
set_option maxRecDepth 100000 in
theorem zs_52_0 : (zl_52_0.flatMap (zz_wn zp_P zm_52.1.1.cls)).all zz_isN = true := by decide +kernel
set_option maxRecDepth 100000 in
theorem zb_52_0 : zl_52_0.all (fun r => zz_wb zt_hh zp_P zt_cl zt_tf zt_fd zt_nf zm_52.1.1.cls zm_52.1.1.name r) = true := by decide +kernel
set_option maxRecDepth 100000 in
theorem zy_52_0 : zl_52_0.all (fun r => zz_tb zt_hh zp_P zm_52 r) = true := by decide +kernel
theorem zw_52 : zz_okW zt_hh zp_P zt_cl zt_tf zt_fd zt_nf zt_T zt_N zm_52 := List.forall_mem_cons.mpr ⟨(zz_w_okL zd_52_0 zb_52_0 (zz_places goodWord zq_52_0 zg_52_0) (zz_places zz_isN zr_52_0 zs_52_0) zy_52_0), (fun _ h => absurd h List.not_mem_nil)⟩
set_option maxRecDepth 100000 in
theorem zq_52 : [zz_cw zt_hh zm_52, Cond.initialized zm_52.1.1.cls].map some = ([1637, 223] : List Nat).map (fun i => lw_tbl[i]?) := by rfl
set_option maxRecDepth 100000 in
theorem zg_52 : [zz_cw zt_hh zm_52, Cond.initialized zm_52.1.1.cls].all goodWord = true := by decide +kernel
set_option maxRecDepth 100000 in
theorem zb_52 : (plainName zm_52.1.1.cls && (decide (zm_52.1.1.cls ≠ "java/lang/invoke/MethodHandle" ∧ zm_52.1.1.cls ≠ "java/lang/invoke/VarHandle") && decide (zm_52.1.2.2.1 ≤ 40))) = true := by decide +kernel
theorem zo_52 : zz_okM zt_hh zp_P zt_cl zt_tf zt_fd zt_nf zt_T zt_N zm_52 := zz_w_okM zw_52 zb_52 (zz_places goodWord zq_52 zg_52)
set_option maxRecDepth 100000 in
theorem zd_53_0 : ∀ r ∈ zl_53_0, decode zm_53.1.2.1 r.1 = .ok (r.2.1, r.2.2.1) := by decide +kernel
set_option maxRecDepth 100000 in
theorem zq_53_0 : (zl_53_0.flatMap (zz_wr zt_hh zp_P zt_cl zm_53.1.1.cls)).map some = ([458, 249, 250, 290, 491, 472, 492, 290, 493, 289, 495, 289, 496, 289, 498, 289, 499, 289, 500, 486, 487] : List Nat).map (fun i => lw_tbl[i]?) := by rfl
set_option maxRecDepth 100000 in
theorem zg_53_0 : (zl_53_0.flatMap (zz_wr zt_hh zp_P zt_cl zm_53.1.1.cls)).all goodWord = true := by decide +kernel
set_option maxRecDepth 100000 in
theorem zr_53_0 : (zl_53_0.flatMap (zz_wn zp_P zm_53.1.1.cls)).map some = ([] : List Nat).map (fun i => lw_tbl[i]?) := by rfl
set_option maxRecDepth 100000 in
theorem zs_53_0 : (zl_53_0.flatMap (zz_wn zp_P zm_53.1.1.cls)).all zz_isN = true := by decide +kernel
set_option maxRecDepth 100000 in
theorem zb_53_0 : zl_53_0.all (fun r => zz_wb zt_hh zp_P zt_cl zt_tf zt_fd zt_nf zm_53.1.1.cls zm_53.1.1.name r) = true := by decide +kernel
set_option maxRecDepth 100000 in
theorem zd_53_1 : ∀ r ∈ zl_53_1, decode zm_53.1.2.1 r.1 = .ok (r.2.1, r.2.2.1) := by decide +kernel
set_option maxRecDepth 100000 in
theorem zq_53_1 : (zl_53_1.flatMap (zz_wr zt_hh zp_P zt_cl zm_53.1.1.cls)).map some = ([488, 459, 460, 225, 462, 461, 489, 473, 474, 226, 476, 475, 490] : List Nat).map (fun i => lw_tbl[i]?) := by rfl
set_option maxRecDepth 100000 in
theorem zg_53_1 : (zl_53_1.flatMap (zz_wr zt_hh zp_P zt_cl zm_53.1.1.cls)).all goodWord = true := by decide +kernel
set_option maxRecDepth 100000 in
theorem zr_53_1 : (zl_53_1.flatMap (zz_wn zp_P zm_53.1.1.cls)).map some = ([] : List Nat).map (fun i => lw_tbl[i]?) := by rfl
set_option maxRecDepth 100000 in
theorem zs_53_1 : (zl_53_1.flatMap (zz_wn zp_P zm_53.1.1.cls)).all zz_isN = true := by decide +kernel
set_option maxRecDepth 100000 in
theorem zb_53_1 : zl_53_1.all (fun r => zz_wb zt_hh zp_P zt_cl zt_tf zt_fd zt_nf zm_53.1.1.cls zm_53.1.1.name r) = true := by decide +kernel
set_option maxRecDepth 100000 in
theorem zy_53_0 : zl_53_0.all (fun r => zz_tb zt_hh zp_P zm_53 r) = true := by decide +kernel
set_option maxRecDepth 100000 in
theorem zy_53_1 : zl_53_1.all (fun r => zz_tb zt_hh zp_P zm_53 r) = true := by decide +kernel
theorem zw_53 : zz_okW zt_hh zp_P zt_cl zt_tf zt_fd zt_nf zt_T zt_N zm_53 := List.forall_mem_cons.mpr ⟨(zz_w_okL zd_53_0 zb_53_0 (zz_places goodWord zq_53_0 zg_53_0) (zz_places zz_isN zr_53_0 zs_53_0) zy_53_0), List.forall_mem_cons.mpr ⟨(zz_w_okL zd_53_1 zb_53_1 (zz_places goodWord zq_53_1 zg_53_1) (zz_places zz_isN zr_53_1 zs_53_1) zy_53_1), (fun _ h => absurd h List.not_mem_nil)⟩⟩
set_option maxRecDepth 100000 in
theorem zq_53 : [zz_cw zt_hh zm_53, Cond.initialized zm_53.1.1.cls].map some = ([457, 224] : List Nat).map (fun i => lw_tbl[i]?) := by rfl
set_option maxRecDepth 100000 in
theorem zg_53 : [zz_cw zt_hh zm_53, Cond.initialized zm_53.1.1.cls].all goodWord = true := by decide +kernel
set_option maxRecDepth 100000 in
theorem zb_53 : (plainName zm_53.1.1.cls && (decide (zm_53.1.1.cls ≠ "java/lang/invoke/MethodHandle" ∧ zm_53.1.1.cls ≠ "java/lang/invoke/VarHandle") && decide (zm_53.1.2.2.1 ≤ 40))) = true := by decide +kernel
theorem zo_53 : zz_okM zt_hh zp_P zt_cl zt_tf zt_fd zt_nf zt_T zt_N zm_53 := zz_w_okM zw_53 zb_53 (zz_places goodWord zq_53 zg_53)
set_option maxRecDepth 100000 in
theorem zd_54_0 : ∀ r ∈ zl_54_0, decode zm_54.1.2.1 r.1 = .ok (r.2.1, r.2.2.1) := by decide +kernel
set_option maxRecDepth 100000 in
theorem zq_54_0 : (zl_54_0.flatMap (zz_wr zt_hh zp_P zt_cl zm_54.1.1.cls)).map some = ([464, 249, 250, 465] : List Nat).map (fun i => lw_tbl[i]?) := by rfl
set_option maxRecDepth 100000 in
theorem zg_54_0 : (zl_54_0.flatMap (zz_wr zt_hh zp_P zt_cl zm_54.1.1.cls)).all goodWord = true := by decide +kernel
set_option maxRecDepth 100000 in
theorem zr_54_0 : (zl_54_0.flatMap (zz_wn zp_P zm_54.1.1.cls)).map some = ([] : List Nat).map (fun i => lw_tbl[i]?) := by rfl
set_option maxRecDepth 100000 in
theorem zs_54_0 : (zl_54_0.flatMap (zz_wn zp_P zm_54.1.1.cls)).all zz_isN = true := by decide +kernel
set_option maxRecDepth 100000 in
theorem zb_54_0 : zl_54_0.all (fun r => zz_wb zt_hh zp_P zt_cl zt_tf zt_fd zt_nf zm_54.1.1.cls zm_54.1.1.name r) = true := by decide +kernel
set_option maxRecDepth 100000 in
theorem zy_54_0 : zl_54_0.all (fun r => zz_tb zt_hh zp_P zm_54 r) = true := by decide +kernel
theorem zw_54 : zz_okW zt_hh zp_P zt_cl zt_tf zt_fd zt_nf zt_T zt_N zm_54 := List.forall_mem_cons.mpr ⟨(zz_w_okL zd_54_0 zb_54_0 (zz_places goodWord zq_54_0 zg_54_0) (zz_places zz_isN zr_54_0 zs_54_0) zy_54_0), (fun _ h => absurd h List.not_mem_nil)⟩
set_option maxRecDepth 100000 in
theorem zq_54 : [zz_cw zt_hh zm_54, Cond.initialized zm_54.1.1.cls].map some = ([463, 225] : List Nat).map (fun i => lw_tbl[i]?) := by rfl
set_option maxRecDepth 100000 in
theorem zg_54 : [zz_cw zt_hh zm_54, Cond.initialized zm_54.1.1.cls].all goodWord = true := by decide +kernel
set_option maxRecDepth 100000 in
theorem zb_54 : (plainName zm_54.1.1.cls && (decide (zm_54.1.1.cls ≠ "java/lang/invoke/MethodHandle" ∧ zm_54.1.1.cls ≠ "java/lang/invoke/VarHandle") && decide (zm_54.1.2.2.1 ≤ 40))) = true := by decide +kernel
theorem zo_54 : zz_okM zt_hh zp_P zt_cl zt_tf zt_fd zt_nf zt_T zt_N zm_54 := zz_w_okM zw_54 zb_54 (zz_places goodWord zq_54 zg_54)
set_option maxRecDepth 100000 in
theorem zd_55_0 : ∀ r ∈ zl_55_0, decode zm_55.1.2.1 r.1 = .ok (r.2.1, r.2.2.1) := by decide +kernel
set_option maxRecDepth 100000 in
theorem zq_55_0 : (zl_55_0.flatMap (zz_wr zt_hh zp_P zt_cl zm_55.1.1.cls)).map some = ([478, 249, 250, 289, 480, 479] : List Nat).map (fun i => lw_tbl[i]?) := by rfl
set_option maxRecDepth 100000 in
theorem zg_55_0 : (zl_55_0.flatMap (zz_wr zt_hh zp_P zt_cl zm_55.1.1.cls)).all goodWord = true := by decide +kernel
set_option maxRecDepth 100000 in
theorem zr_55_0 : (zl_55_0.flatMap (zz_wn zp_P zm_55.1.1.cls)).map some = ([] : List Nat).map (fun i => lw_tbl[i]?) := by rfl
set_option maxRecDepth 100000 in
theorem zs_55_0 : (zl_55_0.flatMap (zz_wn zp_P zm_55.1.1.cls)).all zz_isN = true := by decide +kernel
set_option maxRecDepth 100000 in
theorem zb_55_0 : zl_55_0.all (fun r => zz_wb zt_hh zp_P zt_cl zt_tf zt_fd zt_nf zm_55.1.1.cls zm_55.1.1.name r) = true := by decide +kernel
set_option maxRecDepth 100000 in
theorem zy_55_0 : zl_55_0.all (fun r => zz_tb zt_hh zp_P zm_55 r) = true := by decide +kernel
theorem zw_55 : zz_okW zt_hh zp_P zt_cl zt_tf zt_fd zt_nf zt_T zt_N zm_55 := List.forall_mem_cons.mpr ⟨(zz_w_okL zd_55_0 zb_55_0 (zz_places goodWord zq_55_0 zg_55_0) (zz_places zz_isN zr_55_0 zs_55_0) zy_55_0), (fun _ h => absurd h List.not_mem_nil)⟩
set_option maxRecDepth 100000 in
theorem zq_55 : [zz_cw zt_hh zm_55, Cond.initialized zm_55.1.1.cls].map some = ([477, 226] : List Nat).map (fun i => lw_tbl[i]?) := by rfl
set_option maxRecDepth 100000 in
theorem zg_55 : [zz_cw zt_hh zm_55, Cond.initialized zm_55.1.1.cls].all goodWord = true := by decide +kernel
set_option maxRecDepth 100000 in
theorem zb_55 : (plainName zm_55.1.1.cls && (decide (zm_55.1.1.cls ≠ "java/lang/invoke/MethodHandle" ∧ zm_55.1.1.cls ≠ "java/lang/invoke/VarHandle") && decide (zm_55.1.2.2.1 ≤ 40))) = true := by decide +kernel
theorem zo_55 : zz_okM zt_hh zp_P zt_cl zt_tf zt_fd zt_nf zt_T zt_N zm_55 := zz_w_okM zw_55 zb_55 (zz_places goodWord zq_55 zg_55)
set_option maxRecDepth 100000 in
theorem zd_56_0 : ∀ r ∈ zl_56_0, decode zm_56.1.2.1 r.1 = .ok (r.2.1, r.2.2.1) := by decide +kernel
set_option maxRecDepth 100000 in
theorem zq_56_0 : (zl_56_0.flatMap (zz_wr zt_hh zp_P zt_cl zm_56.1.1.cls)).map some = ([1749, 249, 250, 290, 1750, 1751, 1752, 1753, 1754, 1755, 1756, 1757, 1758] : List Nat).map (fun i => lw_tbl[i]?) := by rfl
set_option maxRecDepth 100000 in
theorem zg_56_0 : (zl_56_0.flatMap (zz_wr zt_hh zp_P zt_cl zm_56.1.1.cls)).all goodWord = true := by decide +kernel
set_option maxRecDepth 100000 in
theorem zr_56_0 : (zl_56_0.flatMap (zz_wn zp_P zm_56.1.1.cls)).map some = ([] : List Nat).map (fun i => lw_tbl[i]?) := by rfl
set_option maxRecDepth 100000 in
theorem zs_56_0 : (zl_56_0.flatMap (zz_wn zp_P zm_56.1.1.cls)).all zz_isN = true := by decide +kernel
set_option maxRecDepth 100000 in
theorem zb_56_0 : zl_56_0.all (fun r => zz_wb zt_hh zp_P zt_cl zt_tf zt_fd zt_nf zm_56.1.1.cls zm_56.1.1.name r) = true := by decide +kernel
set_option maxRecDepth 100000 in
theorem zd_56_1 : ∀ r ∈ zl_56_1, decode zm_56.1.2.1 r.1 = .ok (r.2.1, r.2.2.1) := by decide +kernel
set_option maxRecDepth 100000 in
theorem zq_56_1 : (zl_56_1.flatMap (zz_wr zt_hh zp_P zt_cl zm_56.1.1.cls)).map some = ([1759, 1760, 1761, 1762, 1763, 1764, 1765, 1766, 1767, 1768] : List Nat).map (fun i => lw_tbl[i]?) := by rfl
set_option maxRecDepth 100000 in
theorem zg_56_1 : (zl_56_1.flatMap (zz_wr zt_hh zp_P zt_cl zm_56.1.1.cls)).all goodWord = true := by decide +kernel
set_option maxRecDepth 100000 in
theorem zr_56_1 : (zl_56_1.flatMap (zz_wn zp_P zm_56.1.1.cls)).map some = ([] : List Nat).map (fun i => lw_tbl[i]?) := by rfl
set_option maxRecDepth 100000 in
theorem zs_56_1 : (zl_56_1.flatMap (zz_wn zp_P zm_56.1.1.cls)).all zz_isN = true := by decide +kernel
set_option maxRecDepth 100000 in
theorem zb_56_1 : zl_56_1.all (fun r => zz_wb zt_hh zp_P zt_cl zt_tf zt_fd zt_nf zm_56.1.1.cls zm_56.1.1.name r) = true := by decide +kernel
set_option maxRecDepth 100000 in
theorem zd_56_2 : ∀ r ∈ zl_56_2, decode zm_56.1.2.1 r.1 = .ok (r.2.1, r.2.2.1) := by decide +kernel
set_option maxRecDepth 100000 in
theorem zq_56_2 : (zl_56_2.flatMap (zz_wr zt_hh zp_P zt_cl zm_56.1.1.cls)).map some = ([1769, 1770, 1771, 1772, 1773, 1774, 1775, 1776, 1777, 1778] : List Nat).map (fun i => lw_tbl[i]?) := by rfl
set_option maxRecDepth 100000 in
theorem zg_56_2 : (zl_56_2.flatMap (zz_wr zt_hh zp_P zt_cl zm_56.1.1.cls)).all goodWord = true := by decide +kernel
set_option maxRecDepth 100000 in
theorem zr_56_2 : (zl_56_2.flatMap (zz_wn zp_P zm_56.1.1.cls)).map some = ([] : List Nat).map (fun i => lw_tbl[i]?) := by rfl
set_option maxRecDepth 100000 in
theorem zs_56_2 : (zl_56_2.flatMap (zz_wn zp_P zm_56.1.1.cls)).all zz_isN = true := by decide +kernel
set_option maxRecDepth 100000 in
theorem zb_56_2 : zl_56_2.all (fun r => zz_wb zt_hh zp_P zt_cl zt_tf zt_fd zt_nf zm_56.1.1.cls zm_56.1.1.name r) = true := by decide +kernel
set_option maxRecDepth 100000 in
theorem zd_56_3 : ∀ r ∈ zl_56_3, decode zm_56.1.2.1 r.1 = .ok (r.2.1, r.2.2.1) := by decide +kernel
set_option maxRecDepth 100000 in
theorem zq_56_3 : (zl_56_3.flatMap (zz_wr zt_hh zp_P zt_cl zm_56.1.1.cls)).map some = ([1779, 1780, 1781, 1782, 1783, 1784, 1785, 1786, 1787, 1788] : List Nat).map (fun i => lw_tbl[i]?) := by rfl
set_option maxRecDepth 100000 in
theorem zg_56_3 : (zl_56_3.flatMap (zz_wr zt_hh zp_P zt_cl zm_56.1.1.cls)).all goodWord = true := by decide +kernel
set_option maxRecDepth 100000 in
theorem zr_56_3 : (zl_56_3.flatMap (zz_wn zp_P zm_56.1.1.cls)).map some = ([] : List Nat).map (fun i => lw_tbl[i]?) := by rfl
set_option maxRecDepth 100000 in
theorem zs_56_3 : (zl_56_3.flatMap (zz_wn zp_P zm_56.1.1.cls)).all zz_isN = true := by decide +kernel
set_option maxRecDepth 100000 in
theorem zb_56_3 : zl_56_3.all (fun r => zz_wb zt_hh zp_P zt_cl zt_tf zt_fd zt_nf zm_56.1.1.cls zm_56.1.1.name r) = true := by decide +kernel
set_option maxRecDepth 100000 in
theorem zd_56_4 : ∀ r ∈ zl_56_4, decode zm_56.1.2.1 r.1 = .ok (r.2.1, r.2.2.1) := by decide +kernel
set_option maxRecDepth 100000 in
theorem zq_56_4 : (zl_56_4.flatMap (zz_wr zt_hh zp_P zt_cl zm_56.1.1.cls)).map some = ([1789, 1790, 1792, 289, 1793, 288, 1794, 290, 1808, 289, 1809, 289, 1810, 289, 1811, 289, 1812] : List Nat).map (fun i => lw_tbl[i]?) := by rfl
set_option maxRecDepth 100000 in
theorem zg_56_4 : (zl_56_4.flatMap (zz_wr zt_hh zp_P zt_cl zm_56.1.1.cls)).all goodWord = true := by decide +kernel
set_option maxRecDepth 100000 in
theorem zr_56_4 : (zl_56_4.flatMap (zz_wn zp_P zm_56.1.1.cls)).map some = ([] : List Nat).map (fun i => lw_tbl[i]?) := by rfl
set_option maxRecDepth 100000 in
theorem zs_56_4 : (zl_56_4.flatMap (zz_wn zp_P zm_56.1.1.cls)).all zz_isN = true := by decide +kernel
set_option maxRecDepth 100000 in
theorem zb_56_4 : zl_56_4.all (fun r => zz_wb zt_hh zp_P zt_cl zt_tf zt_fd zt_nf zm_56.1.1.cls zm_56.1.1.name r) = true := by decide +kernel
set_option maxRecDepth 100000 in
theorem zd_56_5 : ∀ r ∈ zl_56_5, decode zm_56.1.2.1 r.1 = .ok (r.2.1, r.2.2.1) := by decide +kernel
set_option maxRecDepth 100000 in
theorem zq_56_5 : (zl_56_5.flatMap (zz_wr zt_hh zp_P zt_cl zm_56.1.1.cls)).map some = ([290, 1813, 289, 1815, 289, 1816, 289, 1817, 289, 1818, 289, 1819, 289, 1822, 289, 1823, 289, 1824, 290, 1825] : List Nat).map (fun i => lw_tbl[i]?) := by rfl
set_option maxRecDepth 100000 in
theorem zg_56_5 : (zl_56_5.flatMap (zz_wr zt_hh zp_P zt_cl zm_56.1.1.cls)).all goodWord = true := by decide +kernel
set_option maxRecDepth 100000 in
theorem zr_56_5 : (zl_56_5.flatMap (zz_wn zp_P zm_56.1.1.cls)).map some = ([] : List Nat).map (fun i => lw_tbl[i]?) := by rfl
set_option maxRecDepth 100000 in
theorem zs_56_5 : (zl_56_5.flatMap (zz_wn zp_P zm_56.1.1.cls)).all zz_isN = true := by decide +kernel
set_option maxRecDepth 100000 in
theorem zb_56_5 : zl_56_5.all (fun r => zz_wb zt_hh zp_P zt_cl zt_tf zt_fd zt_nf zm_56.1.1.cls zm_56.1.1.name r) = true := by decide +kernel
set_option maxRecDepth 100000 in
theorem zd_56_6 : ∀ r ∈ zl_56_6, decode zm_56.1.2.1 r.1 = .ok (r.2.1, r.2.2.1) := by decide +kernel
set_option maxRecDepth 100000 in
theorem zq_56_6 : (zl_56_6.flatMap (zz_wr zt_hh zp_P zt_cl zm_56.1.1.cls)).map some = ([289, 1826, 289, 1827, 289, 1828, 289, 1830, 289, 1831, 289, 1832, 289, 1833, 290, 1834, 289, 1835, 1837, 1838] : List Nat).map (fun i => lw_tbl[i]?) := by rfl
set_option maxRecDepth 100000 in
theorem zg_56_6 : (zl_56_6.flatMap (zz_wr zt_hh zp_P zt_cl zm_56.1.1.cls)).all goodWord = true := by decide +kernel
set_option maxRecDepth 100000 in
theorem zr_56_6 : (zl_56_6.flatMap (zz_wn zp_P zm_56.1.1.cls)).map some = ([] : List Nat).map (fun i => lw_tbl[i]?) := by rfl
set_option maxRecDepth 100000 in
theorem zs_56_6 : (zl_56_6.flatMap (zz_wn zp_P zm_56.1.1.cls)).all zz_isN = true := by decide +kernel
set_option maxRecDepth 100000 in
theorem zb_56_6 : zl_56_6.all (fun r => zz_wb zt_hh zp_P zt_cl zt_tf zt_fd zt_nf zm_56.1.1.cls zm_56.1.1.name r) = true := by decide +kernel
set_option maxRecDepth 100000 in
theorem zd_56_7 : ∀ r ∈ zl_56_7, decode zm_56.1.2.1 r.1 = .ok (r.2.1, r.2.2.1) := by decide +kernel
set_option maxRecDepth 100000 in
theorem zq_56_7 : (zl_56_7.flatMap (zz_wr zt_hh zp_P zt_cl zm_56.1.1.cls)).map some = ([1791, 289, 1839, 289, 1841, 289, 1842, 289, 1844, 289, 1845, 289, 1846, 289, 1850, 289, 1851, 1859, 289, 1863] : List Nat).map (fun i => lw_tbl[i]?) := by rfl
set_option maxRecDepth 100000 in
theorem zg_56_7 : (zl_56_7.flatMap (zz_wr zt_hh zp_P zt_cl zm_56.1.1.cls)).all goodWord = true := by decide +kernel
set_option maxRecDepth 100000 in
theorem zr_56_7 : (zl_56_7.flatMap (zz_wn zp_P zm_56.1.1.cls)).map some = ([] : List Nat).map (fun i => lw_tbl[i]?) := by rfl
set_option maxRecDepth 100000 in
theorem zs_56_7 : (zl_56_7.flatMap (zz_wn zp_P zm_56.1.1.cls)).all zz_isN = true := by decide +kernel
set_option maxRecDepth 100000 in
theorem zb_56_7 : zl_56_7.all (fun r => zz_wb zt_hh zp_P zt_cl zt_tf zt_fd zt_nf zm_56.1.1.cls zm_56.1.1.name r) = true := by decide +kernel
set_option maxRecDepth 100000 in
theorem zd_56_8 : ∀ r ∈ zl_56_8, decode zm_56.1.2.1 r.1 = .ok (r.2.1, r.2.2.1) := by decide +kernel
set_option maxRecDepth 100000 in
theorem zq_56_8 : (zl_56_8.flatMap (zz_wr zt_hh zp_P zt_cl zm_56.1.1.cls)).map some = ([289, 1864, 289, 1866, 289, 1867, 289, 1868, 289, 1869, 289, 1870, 289, 1872, 289, 1873, 289, 1874, 289, 1875] : List Nat).map (fun i => lw_tbl[i]?) := by rfl
set_option maxRecDepth 100000 in
theorem zg_56_8 : (zl_56_8.flatMap (zz_wr zt_hh zp_P zt_cl zm_56.1.1.cls)).all goodWord = true := by decide +kernel
set_option maxRecDepth 100000 in
theorem zr_56_8 : (zl_56_8.flatMap (zz_wn zp_P zm_56.1.1.cls)).map some = ([] : List Nat).map (fun i => lw_tbl[i]?) := by rfl
set_option maxRecDepth 100000 in
theorem zs_56_8 : (zl_56_8.flatMap (zz_wn zp_P zm_56.1.1.cls)).all zz_isN = true := by decide +kernel
set_option maxRecDepth 100000 in
theorem zb_56_8 : zl_56_8.all (fun r => zz_wb zt_hh zp_P zt_cl zt_tf zt_fd zt_nf zm_56.1.1.cls zm_56.1.1.name r) = true := by decide +kernel
set_option maxRecDepth 100000 in
theorem zd_56_9 : ∀ r ∈ zl_56_9, decode zm_56.1.2.1 r.1 = .ok (r.2.1, r.2.2.1) := by decide +kernel
set_option maxRecDepth 100000 in
theorem zq_56_9 : (zl_56_9.flatMap (zz_wr zt_hh zp_P zt_cl zm_56.1.1.cls)).map some = ([289, 1876, 289, 1877, 288, 1878, 1793, 1839] : List Nat).map (fun i => lw_tbl[i]?) := by rfl
set_option maxRecDepth 100000 in
theorem zg_56_9 : (zl_56_9.flatMap (zz_wr zt_hh zp_P zt_cl zm_56.1.1.cls)).all goodWord = true := by decide +kernel
set_option maxRecDepth 100000 in
theorem zr_56_9 : (zl_56_9.flatMap (zz_wn zp_P zm_56.1.1.cls)).map some = ([] : List Nat).map (fun i => lw_tbl[i]?) := by rfl
set_option maxRecDepth 100000 in
theorem zs_56_9 : (zl_56_9.flatMap (zz_wn zp_P zm_56.1.1.cls)).all zz_isN = true := by decide +kernel
set_option maxRecDepth 100000 in
theorem zb_56_9 : zl_56_9.all (fun r => zz_wb zt_hh zp_P zt_cl zt_tf zt_fd zt_nf zm_56.1.1.cls zm_56.1.1.name r) = true := by decide +kernel
set_option maxRecDepth 100000 in
theorem zd_56_10 : ∀ r ∈ zl_56_10, decode zm_56.1.2.1 r.1 = .ok (r.2.1, r.2.2.1) := by decide +kernel
set_option maxRecDepth 100000 in
theorem zq_56_10 : (zl_56_10.flatMap (zz_wr zt_hh zp_P zt_cl zm_56.1.1.cls)).map some = ([] : List Nat).map (fun i => lw_tbl[i]?) := by rfl
set_option maxRecDepth 100000 in
theorem zg_56_10 : (zl_56_10.flatMap (zz_wr zt_hh zp_P zt_cl zm_56.1.1.cls)).all goodWord = true := by decide +kernel
set_option maxRecDepth 100000 in
theorem zr_56_10 : (zl_56_10.flatMap (zz_wn zp_P zm_56.1.1.cls)).map some = ([] : List Nat).map (fun i => lw_tbl[i]?) := by rfl
set_option maxRecDepth 100000 in
theorem zs_56_10 : (zl_56_10.flatMap (zz_wn zp_P zm_56.1.1.cls)).all zz_isN = true := by decide +kernel
set_option maxRecDepth 100000 in
theorem zb_56_10 : zl_56_10.all (fun r => zz_wb zt_hh zp_P zt_cl zt_tf zt_fd zt_nf zm_56.1.1.cls zm_56.1.1.name r) = true := by decide +kernel
set_option maxRecDepth 100000 in
theorem zy_56_0 : zl_56_0.all (fun r => zz_tb zt_hh zp_P zm_56 r) = true := by decide +kernel
set_option maxRecDepth 100000 in
theorem zy_56_1 : zl_56_1.all (fun r => zz_tb zt_hh zp_P zm_56 r) = true := by decide +kernel
set_option maxRecDepth 100000 in
theorem zy_56_2 : zl_56_2.all (fun r => zz_tb zt_hh zp_P zm_56 r) = true := by decide +kernel
set_option maxRecDepth 100000 in
theorem zy_56_3 : zl_56_3.all (fun r => zz_tb zt_hh zp_P zm_56 r) = true := by decide +kernel
set_option maxRecDepth 100000 in
theorem zy_56_4 : zl_56_4.all (fun r => zz_tb zt_hh zp_P zm_56 r) = true := by decide +kernel
set_option maxRecDepth 100000 in
theorem zy_56_5 : zl_56_5.all (fun r => zz_tb zt_hh zp_P zm_56 r) = true := by decide +kernel
set_option maxRecDepth 100000 in
theorem zy_56_6 : zl_56_6.all (fun r => zz_tb zt_hh zp_P zm_56 r) = true := by decide +kernel
set_option maxRecDepth 100000 in
theorem zy_56_7 : zl_56_7.all (fun r => zz_tb zt_hh zp_P zm_56 r) = true := by decide +kernel
set_option maxRecDepth 100000 in
theorem zy_56_8 : zl_56_8.all (fun r => zz_tb zt_hh zp_P zm_56 r) = true := by decide +kernel
set_option maxRecDepth 100000 in
theorem zy_56_9 : zl_56_9.all (fun r => zz_tb zt_hh zp_P zm_56 r) = true := by decide +kernel
set_option maxRecDepth 100000 in
theorem zy_56_10 : zl_56_10.all (fun r => zz_tb zt_hh zp_P zm_56 r) = true := by decide +kernel
theorem zw_56 : zz_okW zt_hh zp_P zt_cl zt_tf zt_fd zt_nf zt_T zt_N zm_56 := List.forall_mem_cons.mpr ⟨(zz_w_okL zd_56_0 zb_56_0 (zz_places goodWord zq_56_0 zg_56_0) (zz_places zz_isN zr_56_0 zs_56_0) zy_56_0), List.forall_mem_cons.mpr ⟨(zz_w_okL zd_56_1 zb_56_1 (zz_places goodWord zq_56_1 zg_56_1) (zz_places zz_isN zr_56_1 zs_56_1) zy_56_1), List.forall_mem_cons.mpr ⟨(zz_w_okL zd_56_2 zb_56_2 (zz_places goodWord zq_56_2 zg_56_2) (zz_places zz_isN zr_56_2 zs_56_2) zy_56_2), List.forall_mem_cons.mpr ⟨(zz_w_okL zd_56_3 zb_56_3 (zz_places goodWord zq_56_3 zg_56_3) (zz_places zz_isN zr_56_3 zs_56_3) zy_56_3), List.forall_mem_cons.mpr ⟨(zz_w_okL zd_56_4 zb_56_4 (zz_places goodWord zq_56_4 zg_56_4) (zz_places zz_isN zr_56_4 zs_56_4) zy_56_4), List.forall_mem_cons.mpr ⟨(zz_w_okL zd_56_5 zb_56_5 (zz_places goodWord zq_56_5 zg_56_5) (zz_places zz_isN zr_56_5 zs_56_5) zy_56_5), List.forall_mem_cons.mpr ⟨(zz_w_okL zd_56_6 zb_56_6 (zz_places goodWord zq_56_6 zg_56_6) (zz_places zz_isN zr_56_6 zs_56_6) zy_56_6), List.forall_mem_cons.mpr ⟨(zz_w_okL zd_56_7 zb_56_7 (zz_places goodWord zq_56_7 zg_56_7) (zz_places zz_isN zr_56_7 zs_56_7) zy_56_7), List.forall_mem_cons.mpr ⟨(zz_w_okL zd_56_8 zb_56_8 (zz_places goodWord zq_56_8 zg_56_8) (zz_places zz_isN zr_56_8 zs_56_8) zy_56_8), List.forall_mem_cons.mpr ⟨(zz_w_okL zd_56_9 zb_56_9 (zz_places goodWord zq_56_9 zg_56_9) (zz_places zz_isN zr_56_9 zs_56_9) zy_56_9), List.forall_mem_cons.mpr ⟨(zz_w_okL zd_56_10 zb_56_10 (zz_places goodWord zq_56_10 zg_56_10) (zz_places zz_isN zr_56_10 zs_56_10) zy_56_10), (fun _ h => absurd h List.not_mem_nil)⟩⟩⟩⟩⟩⟩⟩⟩⟩⟩⟩
set_option maxRecDepth 100000 in
theorem zq_56 : [zz_cw zt_hh zm_56, Cond.initialized zm_56.1.1.cls].map some = ([1748, 227] : List Nat).map (fun i => lw_tbl[i]?) := by rfl
set_option maxRecDepth 100000 in
theorem zg_56 : [zz_cw zt_hh zm_56, Cond.initialized zm_56.1.1.cls].all goodWord = true := by decide +kernel
set_option maxRecDepth 100000 in
theorem zb_56 : (plainName zm_56.1.1.cls && (decide (zm_56.1.1.cls ≠ "java/lang/invoke/MethodHandle" ∧ zm_56.1.1.cls ≠ "java/lang/invoke/VarHandle") && decide (zm_56.1.2.2.1 ≤ 40))) = true := by decide +kernel
theorem zo_56 : zz_okM zt_hh zp_P zt_cl zt_tf zt_fd zt_nf zt_T zt_N zm_56 := zz_w_okM zw_56 zb_56 (zz_places goodWord zq_56 zg_56)
set_option maxRecDepth 100000 in
theorem zd_57_0 : ∀ r ∈ zl_57_0, decode zm_57.1.2.1 r.1 = .ok (r.2.1, r.2.2.1) := by decide +kernel
set_option maxRecDepth 100000 in
theorem zq_57_0 : (zl_57_0.flatMap (zz_wr zt_hh zp_P zt_cl zm_57.1.1.cls)).map some = ([1795, 2069, 113, 2067, 2069, 113, 2067, 2069, 113, 2067, 2069, 113, 2067, 2069, 113, 2067, 1795] : List Nat).map (fun i => lw_tbl[i]?) := by rfl
set_option maxRecDepth 100000 in
theorem zg_57_0 : (zl_57_0.flatMap (zz_wr zt_hh zp_P zt_cl zm_57.1.1.cls)).all goodWord = true := by decide +kernel
set_option maxRecDepth 100000 in
theorem zr_57_0 : (zl_57_0.flatMap (zz_wn zp_P zm_57.1.1.cls)).map some = ([] : List Nat).map (fun i => lw_tbl[i]?) := by rfl
set_option maxRecDepth 100000 in
theorem zs_57_0 : (zl_57_0.flatMap (zz_wn zp_P zm_57.1.1.cls)).all zz_isN = true := by decide +kernel
set_option maxRecDepth 100000 in
theorem zb_57_0 : zl_57_0.all (fun r => zz_wb zt_hh zp_P zt_cl zt_tf zt_fd zt_nf zm_57.1.1.cls zm_57.1.1.name r) = true := by decide +kernel
set_option maxRecDepth 100000 in
theorem zy_57_0 : zl_57_0.all (fun r => zz_tb zt_hh zp_P zm_57 r) = true := by decide +kernel
theorem zw_57 : zz_okW zt_hh zp_P zt_cl zt_tf zt_fd zt_nf zt_T zt_N zm_57 := List.forall_mem_cons.mpr ⟨(zz_w_okL zd_57_0 zb_57_0 (zz_places goodWord zq_57_0 zg_57_0) (zz_places zz_isN zr_57_0 zs_57_0) zy_57_0), (fun _ h => absurd h List.not_mem_nil)⟩
set_option maxRecDepth 100000 in
theorem zq_57 : [zz_cw zt_hh zm_57, Cond.initialized zm_57.1.1.cls].map some = ([2066, 227] : List Nat).map (fun i => lw_tbl[i]?) := by rfl
set_option maxRecDepth 100000 in
theorem zg_57 : [zz_cw zt_hh zm_57, Cond.initialized zm_57.1.1.cls].all goodWord = true := by decide +kernel
set_option maxRecDepth 100000 in
theorem zb_57 : (plainName zm_57.1.1.cls && (decide (zm_57.1.1.cls ≠ "java/lang/invoke/MethodHandle" ∧ zm_57.1.1.cls ≠ "java/lang/invoke/VarHandle") && decide (zm_57.1.2.2.1 ≤ 40))) = true := by decide +kernel
theorem zo_57 : zz_okM zt_hh zp_P zt_cl zt_tf zt_fd zt_nf zt_T zt_N zm_57 := zz_w_okM zw_57 zb_57 (zz_places goodWord zq_57 zg_57)
set_option maxRecDepth 100000 in
theorem zd_58_0 : ∀ r ∈ zl_58_0, decode zm_58.1.2.1 r.1 = .ok (r.2.1, r.2.2.1) := by decide +kernel
set_option maxRecDepth 100000 in
theorem zq_58_0 : (zl_58_0.flatMap (zz_wr zt_hh zp_P zt_cl zm_58.1.1.cls)).map some = ([1794, 1795, 1795, 1795] : List Nat).map (fun i => lw_tbl[i]?) := by rfl
set_option maxRecDepth 100000 in
theorem zg_58_0 : (zl_58_0.flatMap (zz_wr zt_hh zp_P zt_cl zm_58.1.1.cls)).all goodWord = true := by decide +kernel
set_option maxRecDepth 100000 in
theorem zr_58_0 : (zl_58_0.flatMap (zz_wn zp_P zm_58.1.1.cls)).map some = ([] : List Nat).map (fun i => lw_tbl[i]?) := by rfl
set_option maxRecDepth 100000 in
theorem zs_58_0 : (zl_58_0.flatMap (zz_wn zp_P zm_58.1.1.cls)).all zz_isN = true := by decide +kernel
set_option maxRecDepth 100000 in
theorem zb_58_0 : zl_58_0.all (fun r => zz_wb zt_hh zp_P zt_cl zt_tf zt_fd zt_nf zm_58.1.1.cls zm_58.1.1.name r) = true := by decide +kernel
set_option maxRecDepth 100000 in
theorem zy_58_0 : zl_58_0.all (fun r => zz_tb zt_hh zp_P zm_58 r) = true := by decide +kernel
theorem zw_58 : zz_okW zt_hh zp_P zt_cl zt_tf zt_fd zt_nf zt_T zt_N zm_58 := List.forall_mem_cons.mpr ⟨(zz_w_okL zd_58_0 zb_58_0 (zz_places goodWord zq_58_0 zg_58_0) (zz_places zz_isN zr_58_0 zs_58_0) zy_58_0), (fun _ h => absurd h List.not_mem_nil)⟩
set_option maxRecDepth 100000 in
theorem zq_58 : [zz_cw zt_hh zm_58, Cond.initialized zm_58.1.1.cls].map some = ([2070, 227] : List Nat).map (fun i => lw_tbl[i]?) := by rfl
set_option maxRecDepth 100000 in
theorem zg_58 : [zz_cw zt_hh zm_58, Cond.initialized zm_58.1.1.cls].all goodWord = true := by decide +kernel
set_option maxRecDepth 100000 in
theorem zb_58 : (plainName zm_58.1.1.cls && (decide (zm_58.1.1.cls ≠ "java/lang/invoke/MethodHandle" ∧ zm_58.1.1.cls ≠ "java/lang/invoke/VarHandle") && decide (zm_58.1.2.2.1 ≤ 40))) = true := by decide +kernel
theorem zo_58 : zz_okM zt_hh zp_P zt_cl zt_tf zt_fd zt_nf zt_T zt_N zm_58 := zz_w_okM zw_58 zb_58 (zz_places goodWord zq_58 zg_58)
set_option maxRecDepth 100000 in
theorem zd_59_0 : ∀ r ∈ zl_59_0, decode zm_59.1.2.1 r.1 = .ok (r.2.1, r.2.2.1) := by decide +kernel
set_option maxRecDepth 100000 in
theorem zq_59_0 : (zl_59_0.flatMap (zz_wr zt_hh zp_P zt_cl zm_59.1.1.cls)).map some = ([1795, 1795, 1796, 1801, 1802, 1803, 1807, 1820, 1821, 2077, 114, 2075] : List Nat).map (fun i => lw_tbl[i]?) := by rfl
set_option maxRecDepth 100000 in
theorem zg_59_0 : (zl_59_0.flatMap (zz_wr zt_hh zp_P zt_cl zm_59.1.1.cls)).all goodWord = true := by decide +kernel
set_option maxRecDepth 100000 in
theorem zr_59_0 : (zl_59_0.flatMap (zz_wn zp_P zm_59.1.1.cls)).map some = ([] : List Nat).map (fun i => lw_tbl[i]?) := by rfl
set_option maxRecDepth 100000 in
theorem zs_59_0 : (zl_59_0.flatMap (zz_wn zp_P zm_59.1.1.cls)).all zz_isN = true := by decide +kernel
set_option maxRecDepth 100000 in
theorem zb_59_0 : zl_59_0.all (fun r => zz_wb zt_hh zp_P zt_cl zt_tf zt_fd zt_nf zm_59.1.1.cls zm_59.1.1.name r) = true := by decide +kernel
set_option maxRecDepth 100000 in
theorem zd_59_1 : ∀ r ∈ zl_59_1, decode zm_59.1.2.1 r.1 = .ok (r.2.1, r.2.2.1) := by decide +kernel
set_option maxRecDepth 100000 in
theorem zq_59_1 : (zl_59_1.flatMap (zz_wr zt_hh zp_P zt_cl zm_59.1.1.cls)).map some = ([2081, 115, 2079, 2111, 119, 2109, 1801, 2238, 149, 2236, 1801, 1837, 1801, 1802, 1838, 1801, 1804, 1804, 1807, 1806] : List Nat).map (fun i => lw_tbl[i]?) := by rfl
set_option maxRecDepth 100000 in
theorem zg_59_1 : (zl_59_1.flatMap (zz_wr zt_hh zp_P zt_cl zm_59.1.1.cls)).all goodWord = true := by decide +kernel
set_option maxRecDepth 100000 in
theorem zr_59_1 : (zl_59_1.flatMap (zz_wn zp_P zm_59.1.1.cls)).map some = ([] : List Nat).map (fun i => lw_tbl[i]?) := by rfl
set_option maxRecDepth 100000 in
theorem zs_59_1 : (zl_59_1.flatMap (zz_wn zp_P zm_59.1.1.cls)).all zz_isN = true := by decide +kernel
set_option maxRecDepth 100000 in
theorem zb_59_1 : zl_59_1.all (fun r => zz_wb zt_hh zp_P zt_cl zt_tf zt_fd zt_nf zm_59.1.1.cls zm_59.1.1.name r) = true := by decide +kernel
set_option maxRecDepth 100000 in
theorem zd_59_2 : ∀ r ∈ zl_59_2, decode zm_59.1.2.1 r.1 = .ok (r.2.1, r.2.2.1) := by decide +kernel
set_option maxRecDepth 100000 in
theorem zq_59_2 : (zl_59_2.flatMap (zz_wr zt_hh zp_P zt_cl zm_59.1.1.cls)).map some = ([1805, 1807] : List Nat).map (fun i => lw_tbl[i]?) := by rfl
set_option maxRecDepth 100000 in
theorem zg_59_2 : (zl_59_2.flatMap (zz_wr zt_hh zp_P zt_cl zm_59.1.1.cls)).all goodWord = true := by decide +kernel
set_option maxRecDepth 100000 in
theorem zr_59_2 : (zl_59_2.flatMap (zz_wn zp_P zm_59.1.1.cls)).map some = ([] : List Nat).map (fun i => lw_tbl[i]?) := by rfl
set_option maxRecDepth 100000 in
theorem zs_59_2 : (zl_59_2.flatMap (zz_wn zp_P zm_59.1.1.cls)).all zz_isN = true := by decide +kernel
set_option maxRecDepth 100000 in
theorem zb_59_2 : zl_59_2.all (fun r => zz_wb zt_hh zp_P zt_cl zt_tf zt_fd zt_nf zm_59.1.1.cls zm_59.1.1.name r) = true := by decide +kernel
set_option maxRecDepth 100000 in
theorem zy_59_0 : zl_59_0.all (fun r => zz_tb zt_hh zp_P zm_59 r) = true := by decide +kernel
set_option maxRecDepth 100000 in
theorem zy_59_1 : zl_59_1.all (fun r => zz_tb zt_hh zp_P zm_59 r) = true := by decide +kernel
set_option maxRecDepth 100000 in
theorem zy_59_2 : zl_59_2.all (fun r => zz_tb zt_hh zp_P zm_59 r) = true := by decide +kernel
theorem zw_59 : zz_okW zt_hh zp_P zt_cl zt_tf zt_fd zt_nf zt_T zt_N zm_59 := List.forall_mem_cons.mpr ⟨(zz_w_okL zd_59_0 zb_59_0 (zz_places goodWord zq_59_0 zg_59_0) (zz_places zz_isN zr_59_0 zs_59_0) zy_59_0), List.forall_mem_cons.mpr ⟨(zz_w_okL zd_59_1 zb_59_1 (zz_places goodWord zq_59_1 zg_59_1) (zz_places zz_isN zr_59_1 zs_59_1) zy_59_1), List.forall_mem_cons.mpr ⟨(zz_w_okL zd_59_2 zb_59_2 (zz_places goodWord zq_59_2 zg_59_2) (zz_places zz_isN zr_59_2 zs_59_2) zy_59_2), (fun _ h => absurd h List.not_mem_nil)⟩⟩⟩
set_option maxRecDepth 100000 in
theorem zq_59 : [zz_cw zt_hh zm_59, Cond.initialized zm_59.1.1.cls].map some = ([2074, 227] : List Nat).map (fun i => lw_tbl[i]?) := by rfl
set_option maxRecDepth 100000 in
theorem zg_59 : [zz_cw zt_hh zm_59, Cond.initialized zm_59.1.1.cls].all goodWord = true := by decide +kernel
set_option maxRecDepth 100000 in
theorem zb_59 : (plainName zm_59.1.1.cls && (decide (zm_59.1.1.cls ≠ "java/lang/invoke/MethodHandle" ∧ zm_59.1.1.cls ≠ "java/lang/invoke/VarHandle") && decide (zm_59.1.2.2.1 ≤ 40))) = true := by decide +kernel
theorem zo_59 : zz_okM zt_hh zp_P zt_cl zt_tf zt_fd zt_nf zt_T zt_N zm_59 := zz_w_okM zw_59 zb_59 (zz_places goodWord zq_59 zg_59)
set_option maxRecDepth 100000 in
theorem zd_60_0 : ∀ r ∈ zl_60_0, decode zm_60.1.2.1 r.1 = .ok (r.2.1, r.2.2.1) := by decide +kernel
set_option maxRecDepth 100000 in
theorem zq_60_0 : (zl_60_0.flatMap (zz_wr zt_hh zp_P zt_cl zm_60.1.1.cls)).map some = ([2085, 116, 2083, 1798, 1799, 1798, 2089, 117, 2087, 1798, 1798, 1796, 1797, 2092, 2091, 2089, 117, 2087, 2092, 2091, 1798] : List Nat).map (fun i => lw_tbl[i]?) := by rfl
set_option maxRecDepth 100000 in
theorem zg_60_0 : (zl_60_0.flatMap (zz_wr zt_hh zp_P zt_cl zm_60.1.1.cls)).all goodWord = true := by decide +kernel
set_option maxRecDepth 100000 in
theorem zr_60_0 : (zl_60_0.flatMap (zz_wn zp_P zm_60.1.1.cls)).map some = ([] : List Nat).map (fun i => lw_tbl[i]?) := by rfl
set_option maxRecDepth 100000 in
theorem zs_60_0 : (zl_60_0.flatMap (zz_wn zp_P zm_60.1.1.cls)).all zz_isN = true := by decide +kernel
set_option maxRecDepth 100000 in
theorem zb_60_0 : zl_60_0.all (fun r => zz_wb zt_hh zp_P zt_cl zt_tf zt_fd zt_nf zm_60.1.1.cls zm_60.1.1.name r) = true := by decide +kernel
set_option maxRecDepth 100000 in
theorem zd_60_1 : ∀ r ∈ zl_60_1, decode zm_60.1.2.1 r.1 = .ok (r.2.1, r.2.2.1) := by decide +kernel
set_option maxRecDepth 100000 in
theorem zq_60_1 : (zl_60_1.flatMap (zz_wr zt_hh zp_P zt_cl zm_60.1.1.cls)).map some = ([2094, 1799, 2089, 117, 2087, 2095, 1799, 1798, 1797, 2097, 2096, 2089, 117, 2087, 2097, 2096, 1798] : List Nat).map (fun i => lw_tbl[i]?) := by rfl
set_option maxRecDepth 100000 in
theorem zg_60_1 : (zl_60_1.flatMap (zz_wr zt_hh zp_P zt_cl zm_60.1.1.cls)).all goodWord = true := by decide +kernel
set_option maxRecDepth 100000 in
theorem zr_60_1 : (zl_60_1.flatMap (zz_wn zp_P zm_60.1.1.cls)).map some = ([] : List Nat).map (fun i => lw_tbl[i]?) := by rfl
set_option maxRecDepth 100000 in
theorem zs_60_1 : (zl_60_1.flatMap (zz_wn zp_P zm_60.1.1.cls)).all zz_isN = true := by decide +kernel
set_option maxRecDepth 100000 in
theorem zb_60_1 : zl_60_1.all (fun r => zz_wb zt_hh zp_P zt_cl zt_tf zt_fd zt_nf zm_60.1.1.cls zm_60.1.1.name r) = true := by decide +kernel
set_option maxRecDepth 100000 in
theorem zd_60_2 : ∀ r ∈ zl_60_2, decode zm_60.1.2.1 r.1 = .ok (r.2.1, r.2.2.1) := by decide +kernel
set_option maxRecDepth 100000 in
theorem zq_60_2 : (zl_60_2.flatMap (zz_wr zt_hh zp_P zt_cl zm_60.1.1.cls)).map some = ([2099, 1799, 2089, 117, 2087, 2100, 1799, 1798, 1799, 2101, 1797, 2104, 118, 2102, 1800] : List Nat).map (fun i => lw_tbl[i]?) := by rfl
set_option maxRecDepth 100000 in
theorem zg_60_2 : (zl_60_2.flatMap (zz_wr zt_hh zp_P zt_cl zm_60.1.1.cls)).all goodWord = true := by decide +kernel
set_option maxRecDepth 100000 in
theorem zr_60_2 : (zl_60_2.flatMap (zz_wn zp_P zm_60.1.1.cls)).map some = ([] : List Nat).map (fun i => lw_tbl[i]?) := by rfl
set_option maxRecDepth 100000 in
theorem zs_60_2 : (zl_60_2.flatMap (zz_wn zp_P zm_60.1.1.cls)).all zz_isN = true := by decide +kernel
set_option maxRecDepth 100000 in
theorem zb_60_2 : zl_60_2.all (fun r => zz_wb zt_hh zp_P zt_cl zt_tf zt_fd zt_nf zm_60.1.1.cls zm_60.1.1.name r) = true := by decide +kernel
set_option maxRecDepth 100000 in
theorem zy_60_0 : zl_60_0.all (fun r => zz_tb zt_hh zp_P zm_60 r) = true := by decide +kernel
set_option maxRecDepth 100000 in
theorem zy_60_1 : zl_60_1.all (fun r => zz_tb zt_hh zp_P zm_60 r) = true := by decide +kernel
set_option maxRecDepth 100000 in
theorem zy_60_2 : zl_60_2.all (fun r => zz_tb zt_hh zp_P zm_60 r) = true := by decide +kernel
theorem zw_60 : zz_okW zt_hh zp_P zt_cl zt_tf zt_fd zt_nf zt_T zt_N zm_60 := List.forall_mem_cons.mpr ⟨(zz_w_okL zd_60_0 zb_60_0 (zz_places goodWord zq_60_0 zg_60_0) (zz_places zz_isN zr_60_0 zs_60_0) zy_60_0), List.forall_mem_cons.mpr ⟨(zz_w_okL zd_60_1 zb_60_1 (zz_places goodWord zq_60_1 zg_60_1) (zz_places zz_isN zr_60_1 zs_60_1) zy_60_1), List.forall_mem_cons.mpr ⟨(zz_w_okL zd_60_2 zb_60_2 (zz_places goodWord zq_60_2 zg_60_2) (zz_places zz_isN zr_60_2 zs_60_2) zy_60_2), (fun _ h => absurd h List.not_mem_nil)⟩⟩⟩
set_option maxRecDepth 100000 in
theorem zq_60 : [zz_cw zt_hh zm_60, Cond.initialized zm_60.1.1.cls].map some = ([2082, 227] : List Nat).map (fun i => lw_tbl[i]?) := by rfl
set_option maxRecDepth 100000 in
theorem zg_60 : [zz_cw zt_hh zm_60, Cond.initialized zm_60.1.1.cls].all goodWord = true := by decide +kernel
set_option maxRecDepth 100000 in
theorem zb_60 : (plainName zm_60.1.1.cls && (decide (zm_60.1.1.cls ≠ "java/lang/invoke/MethodHandle" ∧ zm_60.1.1.cls ≠ "java/lang/invoke/VarHandle") && decide (zm_60.1.2.2.1 ≤ 40))) = true := by decide +kernel
theorem zo_60 : zz_okM zt_hh zp_P zt_cl zt_tf zt_fd zt_nf zt_T zt_N zm_60 := zz_w_okM zw_60 zb_60 (zz_places goodWord zq_60 zg_60)
set_option maxRecDepth 100000 in
theorem zd_61_0 : ∀ r ∈ zl_61_0, decode zm_61.1.2.1 r.1 = .ok (r.2.1, r.2.2.1) := by decide +kernel
set_option maxRecDepth 100000 in
theorem zq_61_0 : (zl_61_0.flatMap (zz_wr zt_hh zp_P zt_cl zm_61.1.1.cls)).map some = ([1796, 2089, 117, 2087, 1796, 2089, 117, 2087] : List Nat).map (fun i => lw_tbl[i]?) := by rfl
set_option maxRecDepth 100000 in
theorem zg_61_0 : (zl_61_0.flatMap (zz_wr zt_hh zp_P zt_cl zm_61.1.1.cls)).all goodWord = true := by decide +kernel
set_option maxRecDepth 100000 in
theorem zr_61_0 : (zl_61_0.flatMap (zz_wn zp_P zm_61.1.1.cls)).map some = ([] : List Nat).map (fun i => lw_tbl[i]?) := by rfl
set_option maxRecDepth 100000 in
theorem zs_61_0 : (zl_61_0.flatMap (zz_wn zp_P zm_61.1.1.cls)).all zz_isN = true := by decide +kernel
set_option maxRecDepth 100000 in
theorem zb_61_0 : zl_61_0.all (fun r => zz_wb zt_hh zp_P zt_cl zt_tf zt_fd zt_nf zm_61.1.1.cls zm_61.1.1.name r) = true := by decide +kernel
set_option maxRecDepth 100000 in
theorem zd_61_1 : ∀ r ∈ zl_61_1, decode zm_61.1.2.1 r.1 = .ok (r.2.1, r.2.2.1) := by decide +kernel
set_option maxRecDepth 100000 in
theorem zq_61_1 : (zl_61_1.flatMap (zz_wr zt_hh zp_P zt_cl zm_61.1.1.cls)).map some = ([] : List Nat).map (fun i => lw_tbl[i]?) := by rfl
set_option maxRecDepth 100000 in
theorem zg_61_1 : (zl_61_1.flatMap (zz_wr zt_hh zp_P zt_cl zm_61.1.1.cls)).all goodWord = true := by decide +kernel
set_option maxRecDepth 100000 in
theorem zr_61_1 : (zl_61_1.flatMap (zz_wn zp_P zm_61.1.1.cls)).map some = ([] : List Nat).map (fun i => lw_tbl[i]?) := by rfl
set_option maxRecDepth 100000 in
theorem zs_61_1 : (zl_61_1.flatMap (zz_wn zp_P zm_61.1.1.cls)).all zz_isN = true := by decide +kernel
set_option maxRecDepth 100000 in
theorem zb_61_1 : zl_61_1.all (fun r => zz_wb zt_hh zp_P zt_cl zt_tf zt_fd zt_nf zm_61.1.1.cls zm_61.1.1.name r) = true := by decide +kernel
set_option maxRecDepth 100000 in
theorem zy_61_0 : zl_61_0.all (fun r => zz_tb zt_hh zp_P zm_61 r) = true := by decide +kernel
set_option maxRecDepth 100000 in
theorem zy_61_1 : zl_61_1.all (fun r => zz_tb zt_hh zp_P zm_61 r) = true := by decide +kernel
theorem zw_61 : zz_okW zt_hh zp_P zt_cl zt_tf zt_fd zt_nf zt_T zt_N zm_61 := List.forall_mem_cons.mpr ⟨(zz_w_okL zd_61_0 zb_61_0 (zz_places goodWord zq_61_0 zg_61_0) (zz_places zz_isN zr_61_0 zs_61_0) zy_61_0), List.forall_mem_cons.mpr ⟨(zz_w_okL zd_61_1 zb_61_1 (zz_places goodWord zq_61_1 zg_61_1) (zz_places zz_isN zr_61_1 zs_61_1) zy_61_1), (fun _ h => absurd h List.not_mem_nil)⟩⟩
set_option maxRecDepth 100000 in
theorem zq_61 : [zz_cw zt_hh zm_61, Cond.initialized zm_61.1.1.cls].map some = ([2086, 227] : List Nat).map (fun i => lw_tbl[i]?) := by rfl
set_option maxRecDepth 100000 in
theorem zg_61 : [zz_cw zt_hh zm_61, Cond.initialized zm_61.1.1.cls].all goodWord = true := by decide +kernel
set_option maxRecDepth 100000 in
theorem zb_61 : (plainName zm_61.1.1.cls && (decide (zm_61.1.1.cls ≠ "java/lang/invoke/MethodHandle" ∧ zm_61.1.1.cls ≠ "java/lang/invoke/VarHandle") && decide (zm_61.1.2.2.1 ≤ 40))) = true := by decide +kernel
theorem zo_61 : zz_okM zt_hh zp_P zt_cl zt_tf zt_fd zt_nf zt_T zt_N zm_61 := zz_w_okM zw_61 zb_61 (zz_places goodWord zq_61 zg_61)
set_option maxRecDepth 100000 in
theorem zd_62_0 : ∀ r ∈ zl_62_0, decode zm_62.1.2.1 r.1 = .ok (r.2.1, r.2.2.1) := by decide +kernel
set_option maxRecDepth 100000 in
theorem zq_62_0 : (zl_62_0.flatMap (zz_wr zt_hh zp_P zt_cl zm_62.1.1.cls)).map some = ([1796, 1794] : List Nat).map (fun i => lw_tbl[i]?) := by rfl
set_option maxRecDepth 100000 in
theorem zg_62_0 : (zl_62_0.flatMap (zz_wr zt_hh zp_P zt_cl zm_62.1.1.cls)).all goodWord = true := by decide +kernel
set_option maxRecDepth 100000 in
theorem zr_62_0 : (zl_62_0.flatMap (zz_wn zp_P zm_62.1.1.cls)).map some = ([] : List Nat).map (fun i => lw_tbl[i]?) := by rfl
set_option maxRecDepth 100000 in
theorem zs_62_0 : (zl_62_0.flatMap (zz_wn zp_P zm_62.1.1.cls)).all zz_isN = true := by decide +kernel
set_option maxRecDepth 100000 in
theorem zb_62_0 : zl_62_0.all (fun r => zz_wb zt_hh zp_P zt_cl zt_tf zt_fd zt_nf zm_62.1.1.cls zm_62.1.1.name r) = true := by decide +kernel
set_option maxRecDepth 100000 in
theorem zy_62_0 : zl_62_0.all (fun r => zz_tb zt_hh zp_P zm_62 r) = true := by decide +kernel
theorem zw_62 : zz_okW zt_hh zp_P zt_cl zt_tf zt_fd zt_nf zt_T zt_N zm_62 := List.forall_mem_cons.mpr ⟨(zz_w_okL zd_62_0 zb_62_0 (zz_places goodWord zq_62_0 zg_62_0) (zz_places zz_isN zr_62_0 zs_62_0) zy_62_0), (fun _ h => absurd h List.not_mem_nil)⟩
set_option maxRecDepth 100000 in
theorem zq_62 : [zz_cw zt_hh zm_62, Cond.initialized zm_62.1.1.cls].map some = ([2090, 227] : List Nat).map (fun i => lw_tbl[i]?) := by rfl
set_option maxRecDepth 100000 in
theorem zg_62 : [zz_cw zt_hh zm_62, Cond.initialized zm_62.1.1.cls].all goodWord = true := by decide +kernel
set_option maxRecDepth 100000 in
theorem zb_62 : (plainName zm_62.1.1.cls && (decide (zm_62.1.1.cls ≠ "java/lang/invoke/MethodHandle" ∧ zm_62.1.1.cls ≠ "java/lang/invoke/VarHandle") && decide (zm_62.1.2.2.1 ≤ 40))) = true := by decide +kernel
theorem zo_62 : zz_okM zt_hh zp_P zt_cl zt_tf zt_fd zt_nf zt_T zt_N zm_62 := zz_w_okM zw_62 zb_62 (zz_places goodWord zq_62 zg_62)
set_option maxRecDepth 100000 in
theorem zd_63_0 : ∀ r ∈ zl_63_0, decode zm_63.1.2.1 r.1 = .ok (r.2.1, r.2.2.1) := by decide +kernel
set_option maxRecDepth 100000 in
theorem zq_63_0 : (zl_63_0.flatMap (zz_wr zt_hh zp_P zt_cl zm_63.1.1.cls)).map some = ([1829, 1801, 1829, 1797, 1829, 2115, 120, 2113, 2131, 124, 2129, 2155, 129, 2153, 2171, 133, 2169, 2183, 136, 2181] : List Nat).map (fun i => lw_tbl[i]?) := by rfl
set_option maxRecDepth 100000 in
theorem zg_63_0 : (zl_63_0.flatMap (zz_wr zt_hh zp_P zt_cl zm_63.1.1.cls)).all goodWord = true := by decide +kernel
set_option maxRecDepth 100000 in
theorem zr_63_0 : (zl_63_0.flatMap (zz_wn zp_P zm_63.1.1.cls)).map some = ([] : List Nat).map (fun i => lw_tbl[i]?) := by rfl
set_option maxRecDepth 100000 in
theorem zs_63_0 : (zl_63_0.flatMap (zz_wn zp_P zm_63.1.1.cls)).all zz_isN = true := by decide +kernel
set_option maxRecDepth 100000 in
theorem zb_63_0 : zl_63_0.all (fun r => zz_wb zt_hh zp_P zt_cl zt_tf zt_fd zt_nf zm_63.1.1.cls zm_63.1.1.name r) = true := by decide +kernel
set_option maxRecDepth 100000 in
theorem zy_63_0 : zl_63_0.all (fun r => zz_tb zt_hh zp_P zm_63 r) = true := by decide +kernel
theorem zw_63 : zz_okW zt_hh zp_P zt_cl zt_tf zt_fd zt_nf zt_T zt_N zm_63 := List.forall_mem_cons.mpr ⟨(zz_w_okL zd_63_0 zb_63_0 (zz_places goodWord zq_63_0 zg_63_0) (zz_places zz_isN zr_63_0 zs_63_0) zy_63_0), (fun _ h => absurd h List.not_mem_nil)⟩
set_option maxRecDepth 100000 in
theorem zq_63 : [zz_cw zt_hh zm_63, Cond.initialized zm_63.1.1.cls].map some = ([2112, 227] : List Nat).map (fun i => lw_tbl[i]?) := by rfl
set_option maxRecDepth 100000 in
theorem zg_63 : [zz_cw zt_hh zm_63, Cond.initialized zm_63.1.1.cls].all goodWord = true := by decide +kernel
set_option maxRecDepth 100000 in
theorem zb_63 : (plainName zm_63.1.1.cls && (decide (zm_63.1.1.cls ≠ "java/lang/invoke/MethodHandle" ∧ zm_63.1.1.cls ≠ "java/lang/invoke/VarHandle") && decide (zm_63.1.2.2.1 ≤ 40))) = true := by decide +kernel
theorem zo_63 : zz_okM zt_hh zp_P zt_cl zt_tf zt_fd zt_nf zt_T zt_N zm_63 := zz_w_okM zw_63 zb_63 (zz_places goodWord zq_63 zg_63)
set_option maxRecDepth 100000 in
theorem zd_64_0 : ∀ r ∈ zl_64_0, decode zm_64.1.2.1 r.1 = .ok (r.2.1, r.2.2.1) := by decide +kernel
set_option maxRecDepth 100000 in
theorem zq_64_0 : (zl_64_0.flatMap (zz_wr zt_hh zp_P zt_cl zm_64.1.1.cls)).map some = ([1821, 1804, 1807, 1808, 1825, 1810] : List Nat).map (fun i => lw_tbl[i]?) := by rfl
set_option maxRecDepth 100000 in
theorem zg_64_0 : (zl_64_0.flatMap (zz_wr zt_hh zp_P zt_cl zm_64.1.1.cls)).all goodWord = true := by decide +kernel
set_option maxRecDepth 100000 in
theorem zr_64_0 : (zl_64_0.flatMap (zz_wn zp_P zm_64.1.1.cls)).map some = ([] : List Nat).map (fun i => lw_tbl[i]?) := by rfl
set_option maxRecDepth 100000 in
theorem zs_64_0 : (zl_64_0.flatMap (zz_wn zp_P zm_64.1.1.cls)).all zz_isN = true := by decide +kernel
set_option maxRecDepth 100000 in
theorem zb_64_0 : zl_64_0.all (fun r => zz_wb zt_hh zp_P zt_cl zt_tf zt_fd zt_nf zm_64.1.1.cls zm_64.1.1.name r) = true := by decide +kernel
set_option maxRecDepth 100000 in
theorem zd_64_1 : ∀ r ∈ zl_64_1, decode zm_64.1.2.1 r.1 = .ok (r.2.1, r.2.2.1) := by decide +kernel
set_option maxRecDepth 100000 in
theorem zq_64_1 : (zl_64_1.flatMap (zz_wr zt_hh zp_P zt_cl zm_64.1.1.cls)).map some = ([1824, 1823, 1823, 1815, 1822, 1816] : List Nat).map (fun i => lw_tbl[i]?) := by rfl
set_option maxRecDepth 100000 in
theorem zg_64_1 : (zl_64_1.flatMap (zz_wr zt_hh zp_P zt_cl zm_64.1.1.cls)).all goodWord = true := by decide +kernel
set_option maxRecDepth 100000 in
theorem zr_64_1 : (zl_64_1.flatMap (zz_wn zp_P zm_64.1.1.cls)).map some = ([] : List Nat).map (fun i => lw_tbl[i]?) := by rfl
set_option maxRecDepth 100000 in
theorem zs_64_1 : (zl_64_1.flatMap (zz_wn zp_P zm_64.1.1.cls)).all zz_isN = true := by decide +kernel
set_option maxRecDepth 100000 in
theorem zb_64_1 : zl_64_1.all (fun r => zz_wb zt_hh zp_P zt_cl zt_tf zt_fd zt_nf zm_64.1.1.cls zm_64.1.1.name r) = true := by decide +kernel
set_option maxRecDepth 100000 in
theorem zd_64_2 : ∀ r ∈ zl_64_2, decode zm_64.1.2.1 r.1 = .ok (r.2.1, r.2.2.1) := by decide +kernel
set_option maxRecDepth 100000 in
theorem zq_64_2 : (zl_64_2.flatMap (zz_wr zt_hh zp_P zt_cl zm_64.1.1.cls)).map some = ([1822, 1815, 1822, 1817, 1822, 2077, 114, 2075] : List Nat).map (fun i => lw_tbl[i]?) := by rfl
set_option maxRecDepth 100000 in
theorem zg_64_2 : (zl_64_2.flatMap (zz_wr zt_hh zp_P zt_cl zm_64.1.1.cls)).all goodWord = true := by decide +kernel
set_option maxRecDepth 100000 in
theorem zr_64_2 : (zl_64_2.flatMap (zz_wn zp_P zm_64.1.1.cls)).map some = ([] : List Nat).map (fun i => lw_tbl[i]?) := by rfl
set_option maxRecDepth 100000 in
theorem zs_64_2 : (zl_64_2.flatMap (zz_wn zp_P zm_64.1.1.cls)).all zz_isN = true := by decide +kernel
set_option maxRecDepth 100000 in
theorem zb_64_2 : zl_64_2.all (fun r => zz_wb zt_hh zp_P zt_cl zt_tf zt_fd zt_nf zm_64.1.1.cls zm_64.1.1.name r) = true := by decide +kernel
set_option maxRecDepth 100000 in
theorem zy_64_0 : zl_64_0.all (fun r => zz_tb zt_hh zp_P zm_64 r) = true := by decide +kernel
set_option maxRecDepth 100000 in
theorem zy_64_1 : zl_64_1.all (fun r => zz_tb zt_hh zp_P zm_64 r) = true := by decide +kernel
set_option maxRecDepth 100000 in
theorem zy_64_2 : zl_64_2.all (fun r => zz_tb zt_hh zp_P zm_64 r) = true := by decide +kernel
theorem zw_64 : zz_okW zt_hh zp_P zt_cl zt_tf zt_fd zt_nf zt_T zt_N zm_64 := List.forall_mem_cons.mpr ⟨(zz_w_okL zd_64_0 zb_64_0 (zz_places goodWord zq_64_0 zg_64_0) (zz_places zz_isN zr_64_0 zs_64_0) zy_64_0), List.forall_mem_cons.mpr ⟨(zz_w_okL zd_64_1 zb_64_1 (zz_places goodWord zq_64_1 zg_64_1) (zz_places zz_isN zr_64_1 zs_64_1) zy_64_1), List.forall_mem_cons.mpr ⟨(zz_w_okL zd_64_2 zb_64_2 (zz_places goodWord zq_64_2 zg_64_2) (zz_places zz_isN zr_64_2 zs_64_2) zy_64_2), (fun _ h => absurd h List.not_mem_nil)⟩⟩⟩
set_option maxRecDepth 100000 in
theorem zq_64 : [zz_cw zt_hh zm_64, Cond.initialized zm_64.1.1.cls].map some = ([2239, 227] : List Nat).map (fun i => lw_tbl[i]?) := by rfl
set_option maxRecDepth 100000 in
theorem zg_64 : [zz_cw zt_hh zm_64, Cond.initialized zm_64.1.1.cls].all goodWord = true := by decide +kernel
set_option maxRecDepth 100000 in
theorem zb_64 : (plainName zm_64.1.1.cls && (decide (zm_64.1.1.cls ≠ "java/lang/invoke/MethodHandle" ∧ zm_64.1.1.cls ≠ "java/lang/invoke/VarHandle") && decide (zm_64.1.2.2.1 ≤ 40))) = true := by decide +kernel
theorem zo_64 : zz_okM zt_hh zp_P zt_cl zt_tf zt_fd zt_nf zt_T zt_N zm_64 := zz_w_okM zw_64 zb_64 (zz_places goodWord zq_64 zg_64)
set_option maxRecDepth 100000 in
theorem zd_65_0 : ∀ r ∈ zl_65_0, decode zm_65.1.2.1 r.1 = .ok (r.2.1, r.2.2.1) := by decide +kernel
set_option maxRecDepth 100000 in
theorem zq_65_0 : (zl_65_0.flatMap (zz_wr zt_hh zp_P zt_cl zm_65.1.1.cls)).map some = ([1837, 1838] : List Nat).map (fun i => lw_tbl[i]?) := by rfl
set_option maxRecDepth 100000 in
theorem zg_65_0 : (zl_65_0.flatMap (zz_wr zt_hh zp_P zt_cl zm_65.1.1.cls)).all goodWord = true := by decide +kernel
set_option maxRecDepth 100000 in
theorem zr_65_0 : (zl_65_0.flatMap (zz_wn zp_P zm_65.1.1.cls)).map some = ([] : List Nat).map (fun i => lw_tbl[i]?) := by rfl
set_option maxRecDepth 100000 in
theorem zs_65_0 : (zl_65_0.flatMap (zz_wn zp_P zm_65.1.1.cls)).all zz_isN = true := by decide +kernel
set_option maxRecDepth 100000 in
theorem zb_65_0 : zl_65_0.all (fun r => zz_wb zt_hh zp_P zt_cl zt_tf zt_fd zt_nf zm_65.1.1.cls zm_65.1.1.name r) = true := by decide +kernel
set_option maxRecDepth 100000 in
theorem zy_65_0 : zl_65_0.all (fun r => zz_tb zt_hh zp_P zm_65 r) = true := by decide +kernel
theorem zw_65 : zz_okW zt_hh zp_P zt_cl zt_tf zt_fd zt_nf zt_T zt_N zm_65 := List.forall_mem_cons.mpr ⟨(zz_w_okL zd_65_0 zb_65_0 (zz_places goodWord zq_65_0 zg_65_0) (zz_places zz_isN zr_65_0 zs_65_0) zy_65_0), (fun _ h => absurd h List.not_mem_nil)⟩
set_option maxRecDepth 100000 in
theorem zq_65 : [zz_cw zt_hh zm_65, Cond.initialized zm_65.1.1.cls].map some = ([2243, 227] : List Nat).map (fun i => lw_tbl[i]?) := by rfl
set_option maxRecDepth 100000 in
theorem zg_65 : [zz_cw zt_hh zm_65, Cond.initialized zm_65.1.1.cls].all goodWord = true := by decide +kernel
set_option maxRecDepth 100000 in
theorem zb_65 : (plainName zm_65.1.1.cls && (decide (zm_65.1.1.cls ≠ "java/lang/invoke/MethodHandle" ∧ zm_65.1.1.cls ≠ "java/lang/invoke/VarHandle") && decide (zm_65.1.2.2.1 ≤ 40))) = true := by decide +kernel
theorem zo_65 : zz_okM zt_hh zp_P zt_cl zt_tf zt_fd zt_nf zt_T zt_N zm_65 := zz_w_okM zw_65 zb_65 (zz_places goodWord zq_65 zg_65)
set_option maxRecDepth 100000 in
theorem zd_66_0 : ∀ r ∈ zl_66_0, decode zm_66.1.2.1 r.1 = .ok (r.2.1, r.2.2.1) := by decide +kernel
set_option maxRecDepth 100000 in
theorem zq_66_0 : (zl_66_0.flatMap (zz_wr zt_hh zp_P zt_cl zm_66.1.1.cls)).map some = ([1801, 2135, 125, 2133, 2127, 123, 2125, 1807, 1798, 2077, 114, 2075, 1804, 1807, 1799, 2142, 2141, 1804] : List Nat).map (fun i => lw_tbl[i]?) := by rfl
set_option maxRecDepth 100000 in
theorem zg_66_0 : (zl_66_0.flatMap (zz_wr zt_hh zp_P zt_cl zm_66.1.1.cls)).all goodWord = true := by decide +kernel
set_option maxRecDepth 100000 in
theorem zr_66_0 : (zl_66_0.flatMap (zz_wn zp_P zm_66.1.1.cls)).map some = ([] : List Nat).map (fun i => lw_tbl[i]?) := by rfl
set_option maxRecDepth 100000 in
theorem zs_66_0 : (zl_66_0.flatMap (zz_wn zp_P zm_66.1.1.cls)).all zz_isN = true := by decide +kernel
set_option maxRecDepth 100000 in
theorem zb_66_0 : zl_66_0.all (fun r => zz_wb zt_hh zp_P zt_cl zt_tf zt_fd zt_nf zm_66.1.1.cls zm_66.1.1.name r) = true := by decide +kernel
set_option maxRecDepth 100000 in
theorem zd_66_1 : ∀ r ∈ zl_66_1, decode zm_66.1.2.1 r.1 = .ok (r.2.1, r.2.2.1) := by decide +kernel
set_option maxRecDepth 100000 in
theorem zq_66_1 : (zl_66_1.flatMap (zz_wr zt_hh zp_P zt_cl zm_66.1.1.cls)).map some = ([1808, 1799, 1798, 2077, 114, 2075, 1808, 1799, 1809, 1798] : List Nat).map (fun i => lw_tbl[i]?) := by rfl
set_option maxRecDepth 100000 in
theorem zg_66_1 : (zl_66_1.flatMap (zz_wr zt_hh zp_P zt_cl zm_66.1.1.cls)).all goodWord = true := by decide +kernel
set_option maxRecDepth 100000 in
theorem zr_66_1 : (zl_66_1.flatMap (zz_wn zp_P zm_66.1.1.cls)).map some = ([] : List Nat).map (fun i => lw_tbl[i]?) := by rfl
set_option maxRecDepth 100000 in
theorem zs_66_1 : (zl_66_1.flatMap (zz_wn zp_P zm_66.1.1.cls)).all zz_isN = true := by decide +kernel
set_option maxRecDepth 100000 in
theorem zb_66_1 : zl_66_1.all (fun r => zz_wb zt_hh zp_P zt_cl zt_tf zt_fd zt_nf zm_66.1.1.cls zm_66.1.1.name r) = true := by decide +kernel
set_option maxRecDepth 100000 in
theorem zd_66_2 : ∀ r ∈ zl_66_2, decode zm_66.1.2.1 r.1 = .ok (r.2.1, r.2.2.1) := by decide +kernel
set_option maxRecDepth 100000 in
theorem zq_66_2 : (zl_66_2.flatMap (zz_wr zt_hh zp_P zt_cl zm_66.1.1.cls)).map some = ([1807, 1807, 1814, 2123, 122, 2121, 2147, 127, 2145, 1810, 1814, 1812, 2163, 131, 2161, 2167, 132, 2165] : List Nat).map (fun i => lw_tbl[i]?) := by rfl
set_option maxRecDepth 100000 in
theorem zg_66_2 : (zl_66_2.flatMap (zz_wr zt_hh zp_P zt_cl zm_66.1.1.cls)).all goodWord = true := by decide +kernel
set_option maxRecDepth 100000 in
theorem zr_66_2 : (zl_66_2.flatMap (zz_wn zp_P zm_66.1.1.cls)).map some = ([] : List Nat).map (fun i => lw_tbl[i]?) := by rfl
set_option maxRecDepth 100000 in
theorem zs_66_2 : (zl_66_2.flatMap (zz_wn zp_P zm_66.1.1.cls)).all zz_isN = true := by decide +kernel
set_option maxRecDepth 100000 in
theorem zb_66_2 : zl_66_2.all (fun r => zz_wb zt_hh zp_P zt_cl zt_tf zt_fd zt_nf zm_66.1.1.cls zm_66.1.1.name r) = true := by decide +kernel
set_option maxRecDepth 100000 in
theorem zy_66_0 : zl_66_0.all (fun r => zz_tb zt_hh zp_P zm_66 r) = true := by decide +kernel
set_option maxRecDepth 100000 in
theorem zy_66_1 : zl_66_1.all (fun r => zz_tb zt_hh zp_P zm_66 r) = true := by decide +kernel
set_option maxRecDepth 100000 in
theorem zy_66_2 : zl_66_2.all (fun r => zz_tb zt_hh zp_P zm_66 r) = true := by decide +kernel
theorem zw_66 : zz_okW zt_hh zp_P zt_cl zt_tf zt_fd zt_nf zt_T zt_N zm_66 := List.forall_mem_cons.mpr ⟨(zz_w_okL zd_66_0 zb_66_0 (zz_places goodWord zq_66_0 zg_66_0) (zz_places zz_isN zr_66_0 zs_66_0) zy_66_0), List.forall_mem_cons.mpr ⟨(zz_w_okL zd_66_1 zb_66_1 (zz_places goodWord zq_66_1 zg_66_1) (zz_places zz_isN zr_66_1 zs_66_1) zy_66_1), List.forall_mem_cons.mpr ⟨(zz_w_okL zd_66_2 zb_66_2 (zz_places goodWord zq_66_2 zg_66_2) (zz_places zz_isN zr_66_2 zs_66_2) zy_66_2), (fun _ h => absurd h List.not_mem_nil)⟩⟩⟩
set_option maxRecDepth 100000 in
theorem zq_66 : [zz_cw zt_hh zm_66, Cond.initialized zm_66.1.1.cls].map some = ([2132, 227] : List Nat).map (fun i => lw_tbl[i]?) := by rfl
set_option maxRecDepth 100000 in
theorem zg_66 : [zz_cw zt_hh zm_66, Cond.initialized zm_66.1.1.cls].all goodWord = true := by decide +kernel
set_option maxRecDepth 100000 in
theorem zb_66 : (plainName zm_66.1.1.cls && (decide (zm_66.1.1.cls ≠ "java/lang/invoke/MethodHandle" ∧ zm_66.1.1.cls ≠ "java/lang/invoke/VarHandle") && decide (zm_66.1.2.2.1 ≤ 40))) = true := by decide +kernel
theorem zo_66 : zz_okM zt_hh zp_P zt_cl zt_tf zt_fd zt_nf zt_T zt_N zm_66 := zz_w_okM zw_66 zb_66 (zz_places goodWord zq_66 zg_66)
set_option maxRecDepth 100000 in
theorem zd_67_0 : ∀ r ∈ zl_67_0, decode zm_67.1.2.1 r.1 = .ok (r.2.1, r.2.2.1) := by decide +kernel
set_option maxRecDepth 100000 in
theorem zq_67_0 : (zl_67_0.flatMap (zz_wr zt_hh zp_P zt_cl zm_67.1.1.cls)).map some = ([1806, 1804, 1810, 1811, 1809] : List Nat).map (fun i => lw_tbl[i]?) := by rfl
set_option maxRecDepth 100000 in
theorem zg_67_0 : (zl_67_0.flatMap (zz_wr zt_hh zp_P zt_cl zm_67.1.1.cls)).all goodWord = true := by decide +kernel
set_option maxRecDepth 100000 in
theorem zr_67_0 : (zl_67_0.flatMap (zz_wn zp_P zm_67.1.1.cls)).map some = ([] : List Nat).map (fun i => lw_tbl[i]?) := by rfl
set_option maxRecDepth 100000 in
theorem zs_67_0 : (zl_67_0.flatMap (zz_wn zp_P zm_67.1.1.cls)).all zz_isN = true := by decide +kernel
set_option maxRecDepth 100000 in
theorem zb_67_0 : zl_67_0.all (fun r => zz_wb zt_hh zp_P zt_cl zt_tf zt_fd zt_nf zm_67.1.1.cls zm_67.1.1.name r) = true := by decide +kernel
set_option maxRecDepth 100000 in
theorem zy_67_0 : zl_67_0.all (fun r => zz_tb zt_hh zp_P zm_67 r) = true := by decide +kernel
theorem zw_67 : zz_okW zt_hh zp_P zt_cl zt_tf zt_fd zt_nf zt_T zt_N zm_67 := List.forall_mem_cons.mpr ⟨(zz_w_okL zd_67_0 zb_67_0 (zz_places goodWord zq_67_0 zg_67_0) (zz_places zz_isN zr_67_0 zs_67_0) zy_67_0), (fun _ h => absurd h List.not_mem_nil)⟩
set_option maxRecDepth 100000 in
theorem zq_67 : [zz_cw zt_hh zm_67, Cond.initialized zm_67.1.1.cls].map some = ([2247, 227] : List Nat).map (fun i => lw_tbl[i]?) := by rfl
set_option maxRecDepth 100000 in
theorem zg_67 : [zz_cw zt_hh zm_67, Cond.initialized zm_67.1.1.cls].all goodWord = true := by decide +kernel
set_option maxRecDepth 100000 in
theorem zb_67 : (plainName zm_67.1.1.cls && (decide (zm_67.1.1.cls ≠ "java/lang/invoke/MethodHandle" ∧ zm_67.1.1.cls ≠ "java/lang/invoke/VarHandle") && decide (zm_67.1.2.2.1 ≤ 40))) = true := by decide +kernel
theorem zo_67 : zz_okM zt_hh zp_P zt_cl zt_tf zt_fd zt_nf zt_T zt_N zm_67 := zz_w_okM zw_67 zb_67 (zz_places goodWord zq_67 zg_67)
set_option maxRecDepth 100000 in
theorem zd_68_0 : ∀ r ∈ zl_68_0, decode zm_68.1.2.1 r.1 = .ok (r.2.1, r.2.2.1) := by decide +kernel
set_option maxRecDepth 100000 in
theorem zq_68_0 : (zl_68_0.flatMap (zz_wr zt_hh zp_P zt_cl zm_68.1.1.cls)).map some = ([1805, 1806, 1810, 1804, 1860, 1852] : List Nat).map (fun i => lw_tbl[i]?) := by rfl
set_option maxRecDepth 100000 in
theorem zg_68_0 : (zl_68_0.flatMap (zz_wr zt_hh zp_P zt_cl zm_68.1.1.cls)).all goodWord = true := by decide +kernel
set_option maxRecDepth 100000 in
theorem zr_68_0 : (zl_68_0.flatMap (zz_wn zp_P zm_68.1.1.cls)).map some = ([] : List Nat).map (fun i => lw_tbl[i]?) := by rfl
set_option maxRecDepth 100000 in
theorem zs_68_0 : (zl_68_0.flatMap (zz_wn zp_P zm_68.1.1.cls)).all zz_isN = true := by decide +kernel
set_option maxRecDepth 100000 in
theorem zb_68_0 : zl_68_0.all (fun r => zz_wb zt_hh zp_P zt_cl zt_tf zt_fd zt_nf zm_68.1.1.cls zm_68.1.1.name r) = true := by decide +kernel
set_option maxRecDepth 100000 in
theorem zd_68_1 : ∀ r ∈ zl_68_1, decode zm_68.1.2.1 r.1 = .ok (r.2.1, r.2.2.1) := by decide +kernel
set_option maxRecDepth 100000 in
theorem zq_68_1 : (zl_68_1.flatMap (zz_wr zt_hh zp_P zt_cl zm_68.1.1.cls)).map some = ([1853, 1854, 1855, 1856, 1857, 1858, 1859, 1879, 1843, 1871, 1865, 2252, 1840, 1839, 2253] : List Nat).map (fun i => lw_tbl[i]?) := by rfl
set_option maxRecDepth 100000 in
theorem zg_68_1 : (zl_68_1.flatMap (zz_wr zt_hh zp_P zt_cl zm_68.1.1.cls)).all goodWord = true := by decide +kernel
set_option maxRecDepth 100000 in
theorem zr_68_1 : (zl_68_1.flatMap (zz_wn zp_P zm_68.1.1.cls)).map some = ([] : List Nat).map (fun i => lw_tbl[i]?) := by rfl
set_option maxRecDepth 100000 in
theorem zs_68_1 : (zl_68_1.flatMap (zz_wn zp_P zm_68.1.1.cls)).all zz_isN = true := by decide +kernel
set_option maxRecDepth 100000 in
theorem zb_68_1 : zl_68_1.all (fun r => zz_wb zt_hh zp_P zt_cl zt_tf zt_fd zt_nf zm_68.1.1.cls zm_68.1.1.name r) = true := by decide +kernel
set_option maxRecDepth 100000 in
theorem zd_68_2 : ∀ r ∈ zl_68_2, decode zm_68.1.2.1 r.1 = .ok (r.2.1, r.2.2.1) := by decide +kernel
set_option maxRecDepth 100000 in
theorem zq_68_2 : (zl_68_2.flatMap (zz_wr zt_hh zp_P zt_cl zm_68.1.1.cls)).map some = ([1839, 2254, 1863, 1839, 1839, 1864, 1839] : List Nat).map (fun i => lw_tbl[i]?) := by rfl
set_option maxRecDepth 100000 in
theorem zg_68_2 : (zl_68_2.flatMap (zz_wr zt_hh zp_P zt_cl zm_68.1.1.cls)).all goodWord = true := by decide +kernel
set_option maxRecDepth 100000 in
theorem zr_68_2 : (zl_68_2.flatMap (zz_wn zp_P zm_68.1.1.cls)).map some = ([] : List Nat).map (fun i => lw_tbl[i]?) := by rfl
set_option maxRecDepth 100000 in
theorem zs_68_2 : (zl_68_2.flatMap (zz_wn zp_P zm_68.1.1.cls)).all zz_isN = true := by decide +kernel
set_option maxRecDepth 100000 in
theorem zb_68_2 : zl_68_2.all (fun r => zz_wb zt_hh zp_P zt_cl zt_tf zt_fd zt_nf zm_68.1.1.cls zm_68.1.1.name r) = true := by decide +kernel
set_option maxRecDepth 100000 in
theorem zd_68_3 : ∀ r ∈ zl_68_3, decode zm_68.1.2.1 r.1 = .ok (r.2.1, r.2.2.1) := by decide +kernel
set_option maxRecDepth 100000 in
theorem zq_68_3 : (zl_68_3.flatMap (zz_wr zt_hh zp_P zt_cl zm_68.1.1.cls)).map some = ([1839, 1804, 2257, 150, 2255, 1865, 1858, 1861, 1861, 1861] : List Nat).map (fun i => lw_tbl[i]?) := by rfl
set_option maxRecDepth 100000 in
theorem zg_68_3 : (zl_68_3.flatMap (zz_wr zt_hh zp_P zt_cl zm_68.1.1.cls)).all goodWord = true := by decide +kernel
set_option maxRecDepth 100000 in
theorem zr_68_3 : (zl_68_3.flatMap (zz_wn zp_P zm_68.1.1.cls)).map some = ([] : List Nat).map (fun i => lw_tbl[i]?) := by rfl
set_option maxRecDepth 100000 in
theorem zs_68_3 : (zl_68_3.flatMap (zz_wn zp_P zm_68.1.1.cls)).all zz_isN = true := by decide +kernel
set_option maxRecDepth 100000 in
theorem zb_68_3 : zl_68_3.all (fun r => zz_wb zt_hh zp_P zt_cl zt_tf zt_fd zt_nf zm_68.1.1.cls zm_68.1.1.name r) = true := by decide +kernel
set_option maxRecDepth 100000 in
theorem zd_68_4 : ∀ r ∈ zl_68_4, decode zm_68.1.2.1 r.1 = .ok (r.2.1, r.2.2.1) := by decide +kernel
set_option maxRecDepth 100000 in
theorem zq_68_4 : (zl_68_4.flatMap (zz_wr zt_hh zp_P zt_cl zm_68.1.1.cls)).map some = ([1819, 1862, 2265, 152, 2263, 1858, 2501, 207, 2499, 1858, 1858, 1863, 1841, 1864, 1842] : List Nat).map (fun i => lw_tbl[i]?) := by rfl
set_option maxRecDepth 100000 in
theorem zg_68_4 : (zl_68_4.flatMap (zz_wr zt_hh zp_P zt_cl zm_68.1.1.cls)).all goodWord = true := by decide +kernel
set_option maxRecDepth 100000 in
theorem zr_68_4 : (zl_68_4.flatMap (zz_wn zp_P zm_68.1.1.cls)).map some = ([] : List Nat).map (fun i => lw_tbl[i]?) := by rfl
set_option maxRecDepth 100000 in
theorem zs_68_4 : (zl_68_4.flatMap (zz_wn zp_P zm_68.1.1.cls)).all zz_isN = true := by decide +kernel
set_option maxRecDepth 100000 in
theorem zb_68_4 : zl_68_4.all (fun r => zz_wb zt_hh zp_P zt_cl zt_tf zt_fd zt_nf zm_68.1.1.cls zm_68.1.1.name r) = true := by decide +kernel
set_option maxRecDepth 100000 in
theorem zd_68_5 : ∀ r ∈ zl_68_5, decode zm_68.1.2.1 r.1 = .ok (r.2.1, r.2.2.1) := by decide +kernel
set_option maxRecDepth 100000 in
theorem zq_68_5 : (zl_68_5.flatMap (zz_wr zt_hh zp_P zt_cl zm_68.1.1.cls)).map some = ([1863, 1864, 2505, 208, 2503, 2513, 210, 2511] : List Nat).map (fun i => lw_tbl[i]?) := by rfl
set_option maxRecDepth 100000 in
theorem zg_68_5 : (zl_68_5.flatMap (zz_wr zt_hh zp_P zt_cl zm_68.1.1.cls)).all goodWord = true := by decide +kernel
set_option maxRecDepth 100000 in
theorem zr_68_5 : (zl_68_5.flatMap (zz_wn zp_P zm_68.1.1.cls)).map some = ([] : List Nat).map (fun i => lw_tbl[i]?) := by rfl
set_option maxRecDepth 100000 in
theorem zs_68_5 : (zl_68_5.flatMap (zz_wn zp_P zm_68.1.1.cls)).all zz_isN = true := by decide +kernel
set_option maxRecDepth 100000 in
theorem zb_68_5 : zl_68_5.all (fun r => zz_wb zt_hh zp_P zt_cl zt_tf zt_fd zt_nf zm_68.1.1.cls zm_68.1.1.name r) = true := by decide +kernel
set_option maxRecDepth 100000 in
theorem zy_68_0 : zl_68_0.all (fun r => zz_tb zt_hh zp_P zm_68 r) = true := by decide +kernel
set_option maxRecDepth 100000 in
theorem zy_68_1 : zl_68_1.all (fun r => zz_tb zt_hh zp_P zm_68 r) = true := by decide +kernel
set_option maxRecDepth 100000 in
theorem zy_68_2 : zl_68_2.all (fun r => zz_tb zt_hh zp_P zm_68 r) = true := by decide +kernel
set_option maxRecDepth 100000 in
theorem zy_68_3 : zl_68_3.all (fun r => zz_tb zt_hh zp_P zm_68 r) = true := by decide +kernel
set_option maxRecDepth 100000 in
theorem zy_68_4 : zl_68_4.all (fun r => zz_tb zt_hh zp_P zm_68 r) = true := by decide +kernel
set_option maxRecDepth 100000 in
theorem zy_68_5 : zl_68_5.all (fun r => zz_tb zt_hh zp_P zm_68 r) = true := by decide +kernel
theorem zw_68 : zz_okW zt_hh zp_P zt_cl zt_tf zt_fd zt_nf zt_T zt_N zm_68 := List.forall_mem_cons.mpr ⟨(zz_w_okL zd_68_0 zb_68_0 (zz_places goodWord zq_68_0 zg_68_0) (zz_places zz_isN zr_68_0 zs_68_0) zy_68_0), List.forall_mem_cons.mpr ⟨(zz_w_okL zd_68_1 zb_68_1 (zz_places goodWord zq_68_1 zg_68_1) (zz_places zz_isN zr_68_1 zs_68_1) zy_68_1), List.forall_mem_cons.mpr ⟨(zz_w_okL zd_68_2 zb_68_2 (zz_places goodWord zq_68_2 zg_68_2) (zz_places zz_isN zr_68_2 zs_68_2) zy_68_2), List.forall_mem_cons.mpr ⟨(zz_w_okL zd_68_3 zb_68_3 (zz_places goodWord zq_68_3 zg_68_3) (zz_places zz_isN zr_68_3 zs_68_3) zy_68_3), List.forall_mem_cons.mpr ⟨(zz_w_okL zd_68_4 zb_68_4 (zz_places goodWord zq_68_4 zg_68_4) (zz_places zz_isN zr_68_4 zs_68_4) zy_68_4), List.forall_mem_cons.mpr ⟨(zz_w_okL zd_68_5 zb_68_5 (zz_places goodWord zq_68_5 zg_68_5) (zz_places zz_isN zr_68_5 zs_68_5) zy_68_5), (fun _ h => absurd h List.not_mem_nil)⟩⟩⟩⟩⟩⟩
set_option maxRecDepth 100000 in
theorem zq_68 : [zz_cw zt_hh zm_68, Cond.initialized zm_68.1.1.cls].map some = ([2251, 227] : List Nat).map (fun i => lw_tbl[i]?) := by rfl
set_option maxRecDepth 100000 in
theorem zg_68 : [zz_cw zt_hh zm_68, Cond.initialized zm_68.1.1.cls].all goodWord = true := by decide +kernel
set_option maxRecDepth 100000 in
theorem zb_68 : (plainName zm_68.1.1.cls && (decide (zm_68.1.1.cls ≠ "java/lang/invoke/MethodHandle" ∧ zm_68.1.1.cls ≠ "java/lang/invoke/VarHandle") && decide (zm_68.1.2.2.1 ≤ 40))) = true := by decide +kernel
theorem zo_68 : zz_okM zt_hh zp_P zt_cl zt_tf zt_fd zt_nf zt_T zt_N zm_68 := zz_w_okM zw_68 zb_68 (zz_places goodWord zq_68 zg_68)
set_option maxRecDepth 100000 in
theorem zd_69_0 : ∀ r ∈ zl_69_0, decode zm_69.1.2.1 r.1 = .ok (r.2.1, r.2.2.1) := by decide +kernel
set_option maxRecDepth 100000 in
theorem zq_69_0 : (zl_69_0.flatMap (zz_wr zt_hh zp_P zt_cl zm_69.1.1.cls)).map some = ([1860, 1858, 1859, 1858, 1857, 1852, 1854, 1855, 1856] : List Nat).map (fun i => lw_tbl[i]?) := by rfl
set_option maxRecDepth 100000 in
theorem zg_69_0 : (zl_69_0.flatMap (zz_wr zt_hh zp_P zt_cl zm_69.1.1.cls)).all goodWord = true := by decide +kernel
set_option maxRecDepth 100000 in
theorem zr_69_0 : (zl_69_0.flatMap (zz_wn zp_P zm_69.1.1.cls)).map some = ([] : List Nat).map (fun i => lw_tbl[i]?) := by rfl
set_option maxRecDepth 100000 in
theorem zs_69_0 : (zl_69_0.flatMap (zz_wn zp_P zm_69.1.1.cls)).all zz_isN = true := by decide +kernel
set_option maxRecDepth 100000 in
theorem zb_69_0 : zl_69_0.all (fun r => zz_wb zt_hh zp_P zt_cl zt_tf zt_fd zt_nf zm_69.1.1.cls zm_69.1.1.name r) = true := by decide +kernel
set_option maxRecDepth 100000 in
theorem zy_69_0 : zl_69_0.all (fun r => zz_tb zt_hh zp_P zm_69 r) = true := by decide +kernel
theorem zw_69 : zz_okW zt_hh zp_P zt_cl zt_tf zt_fd zt_nf zt_T zt_N zm_69 := List.forall_mem_cons.mpr ⟨(zz_w_okL zd_69_0 zb_69_0 (zz_places goodWord zq_69_0 zg_69_0) (zz_places zz_isN zr_69_0 zs_69_0) zy_69_0), (fun _ h => absurd h List.not_mem_nil)⟩
set_option maxRecDepth 100000 in
theorem zq_69 : [zz_cw zt_hh zm_69, Cond.initialized zm_69.1.1.cls].map some = ([2518, 227] : List Nat).map (fun i => lw_tbl[i]?) := by rfl
set_option maxRecDepth 100000 in
theorem zg_69 : [zz_cw zt_hh zm_69, Cond.initialized zm_69.1.1.cls].all goodWord = true := by decide +kernel
set_option maxRecDepth 100000 in
theorem zb_69 : (plainName zm_69.1.1.cls && (decide (zm_69.1.1.cls ≠ "java/lang/invoke/MethodHandle" ∧ zm_69.1.1.cls ≠ "java/lang/invoke/VarHandle") && decide (zm_69.1.2.2.1 ≤ 40))) = true := by decide +kernel
theorem zo_69 : zz_okM zt_hh zp_P zt_cl zt_tf zt_fd zt_nf zt_T zt_N zm_69 := zz_w_okM zw_69 zb_69 (zz_places goodWord zq_69 zg_69)
set_option maxRecDepth 100000 in
theorem zd_70_0 : ∀ r ∈ zl_70_0, decode zm_70.1.2.1 r.1 = .ok (r.2.1, r.2.2.1) := by decide +kernel
set_option maxRecDepth 100000 in
theorem zq_70_0 : (zl_70_0.flatMap (zz_wr zt_hh zp_P zt_cl zm_70.1.1.cls)).map some = ([1879, 1878] : List Nat).map (fun i => lw_tbl[i]?) := by rfl
set_option maxRecDepth 100000 in
theorem zg_70_0 : (zl_70_0.flatMap (zz_wr zt_hh zp_P zt_cl zm_70.1.1.cls)).all goodWord = true := by decide +kernel
set_option maxRecDepth 100000 in
theorem zr_70_0 : (zl_70_0.flatMap (zz_wn zp_P zm_70.1.1.cls)).map some = ([] : List Nat).map (fun i => lw_tbl[i]?) := by rfl
set_option maxRecDepth 100000 in
theorem zs_70_0 : (zl_70_0.flatMap (zz_wn zp_P zm_70.1.1.cls)).all zz_isN = true := by decide +kernel
set_option maxRecDepth 100000 in
theorem zb_70_0 : zl_70_0.all (fun r => zz_wb zt_hh zp_P zt_cl zt_tf zt_fd zt_nf zm_70.1.1.cls zm_70.1.1.name r) = true := by decide +kernel
set_option maxRecDepth 100000 in
theorem zy_70_0 : zl_70_0.all (fun r => zz_tb zt_hh zp_P zm_70 r) = true := by decide +kernel
theorem zw_70 : zz_okW zt_hh zp_P zt_cl zt_tf zt_fd zt_nf zt_T zt_N zm_70 := List.forall_mem_cons.mpr ⟨(zz_w_okL zd_70_0 zb_70_0 (zz_places goodWord zq_70_0 zg_70_0) (zz_places zz_isN zr_70_0 zs_70_0) zy_70_0), (fun _ h => absurd h List.not_mem_nil)⟩
set_option maxRecDepth 100000 in
theorem zq_70 : [zz_cw zt_hh zm_70, Cond.initialized zm_70.1.1.cls].map some = ([2522, 227] : List Nat).map (fun i => lw_tbl[i]?) := by rfl
set_option maxRecDepth 100000 in
theorem zg_70 : [zz_cw zt_hh zm_70, Cond.initialized zm_70.1.1.cls].all goodWord = true := by decide +kernel
set_option maxRecDepth 100000 in
theorem zb_70 : (plainName zm_70.1.1.cls && (decide (zm_70.1.1.cls ≠ "java/lang/invoke/MethodHandle" ∧ zm_70.1.1.cls ≠ "java/lang/invoke/VarHandle") && decide (zm_70.1.2.2.1 ≤ 40))) = true := by decide +kernel
theorem zo_70 : zz_okM zt_hh zp_P zt_cl zt_tf zt_fd zt_nf zt_T zt_N zm_70 := zz_w_okM zw_70 zb_70 (zz_places goodWord zq_70 zg_70)
set_option maxRecDepth 100000 in
theorem zd_71_0 : ∀ r ∈ zl_71_0, decode zm_71.1.2.1 r.1 = .ok (r.2.1, r.2.2.1) := by decide +kernel
set_option maxRecDepth 100000 in
theorem zq_71_0 : (zl_71_0.flatMap (zz_wr zt_hh zp_P zt_cl zm_71.1.1.cls)).map some = ([1879] : List Nat).map (fun i => lw_tbl[i]?) := by rfl
set_option maxRecDepth 100000 in
theorem zg_71_0 : (zl_71_0.flatMap (zz_wr zt_hh zp_P zt_cl zm_71.1.1.cls)).all goodWord = true := by decide +kernel
set_option maxRecDepth 100000 in
theorem zr_71_0 : (zl_71_0.flatMap (zz_wn zp_P zm_71.1.1.cls)).map some = ([] : List Nat).map (fun i => lw_tbl[i]?) := by rfl
set_option maxRecDepth 100000 in
theorem zs_71_0 : (zl_71_0.flatMap (zz_wn zp_P zm_71.1.1.cls)).all zz_isN = true := by decide +kernel
set_option maxRecDepth 100000 in
theorem zb_71_0 : zl_71_0.all (fun r => zz_wb zt_hh zp_P zt_cl zt_tf zt_fd zt_nf zm_71.1.1.cls zm_71.1.1.name r) = true := by decide +kernel
set_option maxRecDepth 100000 in
theorem zy_71_0 : zl_71_0.all (fun r => zz_tb zt_hh zp_P zm_71 r) = true := by decide +kernel
theorem zw_71 : zz_okW zt_hh zp_P zt_cl zt_tf zt_fd zt_nf zt_T zt_N zm_71 := List.forall_mem_cons.mpr ⟨(zz_w_okL zd_71_0 zb_71_0 (zz_places goodWord zq_71_0 zg_71_0) (zz_places zz_isN zr_71_0 zs_71_0) zy_71_0), (fun _ h => absurd h List.not_mem_nil)⟩
set_option maxRecDepth 100000 in
theorem zq_71 : [zz_cw zt_hh zm_71, Cond.initialized zm_71.1.1.cls].map some = ([2526, 227] : List Nat).map (fun i => lw_tbl[i]?) := by rfl
set_option maxRecDepth 100000 in
theorem zg_71 : [zz_cw zt_hh zm_71, Cond.initialized zm_71.1.1.cls].all goodWord = true := by decide +kernel
set_option maxRecDepth 100000 in
theorem zb_71 : (plainName zm_71.1.1.cls && (decide (zm_71.1.1.cls ≠ "java/lang/invoke/MethodHandle" ∧ zm_71.1.1.cls ≠ "java/lang/invoke/VarHandle") && decide (zm_71.1.2.2.1 ≤ 40))) = true := by decide +kernel
theorem zo_71 : zz_okM zt_hh zp_P zt_cl zt_tf zt_fd zt_nf zt_T zt_N zm_71 := zz_w_okM zw_71 zb_71 (zz_places goodWord zq_71 zg_71)
set_option maxRecDepth 100000 in
theorem zd_72_0 : ∀ r ∈ zl_72_0, decode zm_72.1.2.1 r.1 = .ok (r.2.1, r.2.2.1) := by decide +kernel
set_option maxRecDepth 100000 in
theorem zq_72_0 : (zl_72_0.flatMap (zz_wr zt_hh zp_P zt_cl zm_72.1.1.cls)).map some = ([2532, 2531, 1839, 1879, 1839, 1839, 2480, 202, 2478, 2489, 204, 2487] : List Nat).map (fun i => lw_tbl[i]?) := by rfl
set_option maxRecDepth 100000 in
theorem zg_72_0 : (zl_72_0.flatMap (zz_wr zt_hh zp_P zt_cl zm_72.1.1.cls)).all goodWord = true := by decide +kernel
set_option maxRecDepth 100000 in
theorem zr_72_0 : (zl_72_0.flatMap (zz_wn zp_P zm_72.1.1.cls)).map some = ([] : List Nat).map (fun i => lw_tbl[i]?) := by rfl
set_option maxRecDepth 100000 in
theorem zs_72_0 : (zl_72_0.flatMap (zz_wn zp_P zm_72.1.1.cls)).all zz_isN = true := by decide +kernel
set_option maxRecDepth 100000 in
theorem zb_72_0 : zl_72_0.all (fun r => zz_wb zt_hh zp_P zt_cl zt_tf zt_fd zt_nf zm_72.1.1.cls zm_72.1.1.name r) = true := by decide +kernel
set_option maxRecDepth 100000 in
theorem zd_72_1 : ∀ r ∈ zl_72_1, decode zm_72.1.2.1 r.1 = .ok (r.2.1, r.2.2.1) := by decide +kernel
set_option maxRecDepth 100000 in
theorem zq_72_1 : (zl_72_1.flatMap (zz_wr zt_hh zp_P zt_cl zm_72.1.1.cls)).map some = ([1879] : List Nat).map (fun i => lw_tbl[i]?) := by rfl
set_option maxRecDepth 100000 in
theorem zg_72_1 : (zl_72_1.flatMap (zz_wr zt_hh zp_P zt_cl zm_72.1.1.cls)).all goodWord = true := by decide +kernel
set_option maxRecDepth 100000 in
theorem zr_72_1 : (zl_72_1.flatMap (zz_wn zp_P zm_72.1.1.cls)).map some = ([] : List Nat).map (fun i => lw_tbl[i]?) := by rfl
set_option maxRecDepth 100000 in
theorem zs_72_1 : (zl_72_1.flatMap (zz_wn zp_P zm_72.1.1.cls)).all zz_isN = true := by decide +kernel
set_option maxRecDepth 100000 in
theorem zb_72_1 : zl_72_1.all (fun r => zz_wb zt_hh zp_P zt_cl zt_tf zt_fd zt_nf zm_72.1.1.cls zm_72.1.1.name r) = true := by decide +kernel
set_option maxRecDepth 100000 in
theorem zy_72_0 : zl_72_0.all (fun r => zz_tb zt_hh zp_P zm_72 r) = true := by decide +kernel
set_option maxRecDepth 100000 in
theorem zy_72_1 : zl_72_1.all (fun r => zz_tb zt_hh zp_P zm_72 r) = true := by decide +kernel
theorem zw_72 : zz_okW zt_hh zp_P zt_cl zt_tf zt_fd zt_nf zt_T zt_N zm_72 := List.forall_mem_cons.mpr ⟨(zz_w_okL zd_72_0 zb_72_0 (zz_places goodWord zq_72_0 zg_72_0) (zz_places zz_isN zr_72_0 zs_72_0) zy_72_0), List.forall_mem_cons.mpr ⟨(zz_w_okL zd_72_1 zb_72_1 (zz_places goodWord zq_72_1 zg_72_1) (zz_places zz_isN zr_72_1 zs_72_1) zy_72_1), (fun _ h => absurd h List.not_mem_nil)⟩⟩
set_option maxRecDepth 100000 in
theorem zq_72 : [zz_cw zt_hh zm_72, Cond.initialized zm_72.1.1.cls].map some = ([2530, 227] : List Nat).map (fun i => lw_tbl[i]?) := by rfl
set_option maxRecDepth 100000 in
theorem zg_72 : [zz_cw zt_hh zm_72, Cond.initialized zm_72.1.1.cls].all goodWord = true := by decide +kernel
set_option maxRecDepth 100000 in
theorem zb_72 : (plainName zm_72.1.1.cls && (decide (zm_72.1.1.cls ≠ "java/lang/invoke/MethodHandle" ∧ zm_72.1.1.cls ≠ "java/lang/invoke/VarHandle") && decide (zm_72.1.2.2.1 ≤ 40))) = true := by decide +kernel
theorem zo_72 : zz_okM zt_hh zp_P zt_cl zt_tf zt_fd zt_nf zt_T zt_N zm_72 := zz_w_okM zw_72 zb_72 (zz_places goodWord zq_72 zg_72)
set_option maxRecDepth 100000 in
theorem zd_73_0 : ∀ r ∈ zl_73_0, decode zm_73.1.2.1 r.1 = .ok (r.2.1, r.2.2.1) := by decide +kernel
set_option maxRecDepth 100000 in
theorem zq_73_0 : (zl_73_0.flatMap (zz_wr zt_hh zp_P zt_cl zm_73.1.1.cls)).map some = ([] : List Nat).map (fun i => lw_tbl[i]?) := by rfl
set_option maxRecDepth 100000 in
theorem zg_73_0 : (zl_73_0.flatMap (zz_wr zt_hh zp_P zt_cl zm_73.1.1.cls)).all goodWord = true := by decide +kernel
set_option maxRecDepth 100000 in
theorem zr_73_0 : (zl_73_0.flatMap (zz_wn zp_P zm_73.1.1.cls)).map some = ([] : List Nat).map (fun i => lw_tbl[i]?) := by rfl
set_option maxRecDepth 100000 in
theorem zs_73_0 : (zl_73_0.flatMap (zz_wn zp_P zm_73.1.1.cls)).all zz_isN = true := by decide +kernel
set_option maxRecDepth 100000 in
theorem zb_73_0 : zl_73_0.all (fun r => zz_wb zt_hh zp_P zt_cl zt_tf zt_fd zt_nf zm_73.1.1.cls zm_73.1.1.name r) = true := by decide +kernel
set_option maxRecDepth 100000 in
theorem zy_73_0 : zl_73_0.all (fun r => zz_tb zt_hh zp_P zm_73 r) = true := by decide +kernel
theorem zw_73 : zz_okW zt_hh zp_P zt_cl zt_tf zt_fd zt_nf zt_T zt_N zm_73 := List.forall_mem_cons.mpr ⟨(zz_w_okL zd_73_0 zb_73_0 (zz_places goodWord zq_73_0 zg_73_0) (zz_places zz_isN zr_73_0 zs_73_0) zy_73_0), (fun _ h => absurd h List.not_mem_nil)⟩
set_option maxRecDepth 100000 in
theorem zq_73 : [zz_cw zt_hh zm_73, Cond.initialized zm_73.1.1.cls].map some = ([2533, 227] : List Nat).map (fun i => lw_tbl[i]?) := by rfl
set_option maxRecDepth 100000 in
theorem zg_73 : [zz_cw zt_hh zm_73, Cond.initialized zm_73.1.1.cls].all goodWord = true := by decide +kernel
set_option maxRecDepth 100000 in
theorem zb_73 : (plainName zm_73.1.1.cls && (decide (zm_73.1.1.cls ≠ "java/lang/invoke/MethodHandle" ∧ zm_73.1.1.cls ≠ "java/lang/invoke/VarHandle") && decide (zm_73.1.2.2.1 ≤ 40))) = true := by decide +kernel
theorem zo_73 : zz_okM zt_hh zp_P zt_cl zt_tf zt_fd zt_nf zt_T zt_N zm_73 := zz_w_okM zw_73 zb_73 (zz_places goodWord zq_73 zg_73)
set_option maxRecDepth 100000 in
theorem zd_74_0 : ∀ r ∈ zl_74_0, decode zm_74.1.2.1 r.1 = .ok (r.2.1, r.2.2.1) := by decide +kernel
set_option maxRecDepth 100000 in
theorem zq_74_0 : (zl_74_0.flatMap (zz_wr zt_hh zp_P zt_cl zm_74.1.1.cls)).map some = ([2532, 2531, 2505, 208, 2503] : List Nat).map (fun i => lw_tbl[i]?) := by rfl
set_option maxRecDepth 100000 in
theorem zg_74_0 : (zl_74_0.flatMap (zz_wr zt_hh zp_P zt_cl zm_74.1.1.cls)).all goodWord = true := by decide +kernel
set_option maxRecDepth 100000 in
theorem zr_74_0 : (zl_74_0.flatMap (zz_wn zp_P zm_74.1.1.cls)).map some = ([] : List Nat).map (fun i => lw_tbl[i]?) := by rfl
set_option maxRecDepth 100000 in
theorem zs_74_0 : (zl_74_0.flatMap (zz_wn zp_P zm_74.1.1.cls)).all zz_isN = true := by decide +kernel
set_option maxRecDepth 100000 in
theorem zb_74_0 : zl_74_0.all (fun r => zz_wb zt_hh zp_P zt_cl zt_tf zt_fd zt_nf zm_74.1.1.cls zm_74.1.1.name r) = true := by decide +kernel
set_option maxRecDepth 100000 in
theorem zy_74_0 : zl_74_0.all (fun r => zz_tb zt_hh zp_P zm_74 r) = true := by decide +kernel
theorem zw_74 : zz_okW zt_hh zp_P zt_cl zt_tf zt_fd zt_nf zt_T zt_N zm_74 := List.forall_mem_cons.mpr ⟨(zz_w_okL zd_74_0 zb_74_0 (zz_places goodWord zq_74_0 zg_74_0) (zz_places zz_isN zr_74_0 zs_74_0) zy_74_0), (fun _ h => absurd h List.not_mem_nil)⟩
