/-! ===== each method's rows are the code's, and the tables have their words (printed by program) ===== -/
set_option maxRecDepth 100000 in
theorem zd_law_0 : ∀ r ∈ zl_law_0, decode zm_law.1.2.1 r.1 = .ok (r.2.1, r.2.2.1) := by decide +kernel
set_option maxRecDepth 100000 in
theorem zq_law_0 : (zl_law_0.flatMap (zz_wr zt_hh zp_P zt_cl zm_law.1.1.cls)).map some = ([243, 244, 216, 246, 245, 1744, 1745, 227, 1747, 1746] : List Nat).map (fun i => lw_tbl[i]?) := by rfl
set_option maxRecDepth 100000 in
theorem zg_law_0 : (zl_law_0.flatMap (zz_wr zt_hh zp_P zt_cl zm_law.1.1.cls)).all goodWord = true := by decide +kernel
set_option maxRecDepth 100000 in
theorem zr_law_0 : (zl_law_0.flatMap (zz_wn zp_P zm_law.1.1.cls)).map some = ([] : List Nat).map (fun i => lw_tbl[i]?) := by rfl
set_option maxRecDepth 100000 in
theorem zs_law_0 : (zl_law_0.flatMap (zz_wn zp_P zm_law.1.1.cls)).all zz_isN = true := by decide +kernel
set_option maxRecDepth 100000 in
theorem zb_law_0 : zl_law_0.all (fun r => zz_wb zt_hh zp_P zt_cl zt_tf zt_fd zt_nf zm_law.1.1.cls zm_law.1.1.name r) = true := by decide +kernel
set_option maxRecDepth 100000 in
theorem zd_law_1 : ∀ r ∈ zl_law_1, decode zm_law.1.2.1 r.1 = .ok (r.2.1, r.2.2.1) := by decide +kernel
set_option maxRecDepth 100000 in
theorem zq_law_1 : (zl_law_1.flatMap (zz_wr zt_hh zp_P zt_cl zm_law.1.1.cls)).map some = ([588, 589, 587, 2064, 2065, 2063] : List Nat).map (fun i => lw_tbl[i]?) := by rfl
set_option maxRecDepth 100000 in
theorem zg_law_1 : (zl_law_1.flatMap (zz_wr zt_hh zp_P zt_cl zm_law.1.1.cls)).all goodWord = true := by decide +kernel
set_option maxRecDepth 100000 in
theorem zr_law_1 : (zl_law_1.flatMap (zz_wn zp_P zm_law.1.1.cls)).map some = ([] : List Nat).map (fun i => lw_tbl[i]?) := by rfl
set_option maxRecDepth 100000 in
theorem zs_law_1 : (zl_law_1.flatMap (zz_wn zp_P zm_law.1.1.cls)).all zz_isN = true := by decide +kernel
set_option maxRecDepth 100000 in
theorem zb_law_1 : zl_law_1.all (fun r => zz_wb zt_hh zp_P zt_cl zt_tf zt_fd zt_nf zm_law.1.1.cls zm_law.1.1.name r) = true := by decide +kernel
set_option maxRecDepth 100000 in
theorem zd_law_2 : ∀ r ∈ zl_law_2, decode zm_law.1.2.1 r.1 = .ok (r.2.1, r.2.2.1) := by decide +kernel
set_option maxRecDepth 100000 in
theorem zq_law_2 : (zl_law_2.flatMap (zz_wr zt_hh zp_P zt_cl zm_law.1.1.cls)).map some = ([613, 614, 612, 2072, 2073, 2071, 1052, 1053, 1051, 2241, 2242, 2240] : List Nat).map (fun i => lw_tbl[i]?) := by rfl
set_option maxRecDepth 100000 in
theorem zg_law_2 : (zl_law_2.flatMap (zz_wr zt_hh zp_P zt_cl zm_law.1.1.cls)).all goodWord = true := by decide +kernel
set_option maxRecDepth 100000 in
theorem zr_law_2 : (zl_law_2.flatMap (zz_wn zp_P zm_law.1.1.cls)).map some = ([] : List Nat).map (fun i => lw_tbl[i]?) := by rfl
set_option maxRecDepth 100000 in
theorem zs_law_2 : (zl_law_2.flatMap (zz_wn zp_P zm_law.1.1.cls)).all zz_isN = true := by decide +kernel
set_option maxRecDepth 100000 in
theorem zb_law_2 : zl_law_2.all (fun r => zz_wb zt_hh zp_P zt_cl zt_tf zt_fd zt_nf zm_law.1.1.cls zm_law.1.1.name r) = true := by decide +kernel
set_option maxRecDepth 100000 in
theorem zd_law_3 : ∀ r ∈ zl_law_3, decode zm_law.1.2.1 r.1 = .ok (r.2.1, r.2.2.1) := by decide +kernel
set_option maxRecDepth 100000 in
theorem zq_law_3 : (zl_law_3.flatMap (zz_wr zt_hh zp_P zt_cl zm_law.1.1.cls)).map some = ([1056, 1057, 1055, 2245, 2246, 2244, 1061, 1062, 1060] : List Nat).map (fun i => lw_tbl[i]?) := by rfl
set_option maxRecDepth 100000 in
theorem zg_law_3 : (zl_law_3.flatMap (zz_wr zt_hh zp_P zt_cl zm_law.1.1.cls)).all goodWord = true := by decide +kernel
set_option maxRecDepth 100000 in
theorem zr_law_3 : (zl_law_3.flatMap (zz_wn zp_P zm_law.1.1.cls)).map some = ([] : List Nat).map (fun i => lw_tbl[i]?) := by rfl
set_option maxRecDepth 100000 in
theorem zs_law_3 : (zl_law_3.flatMap (zz_wn zp_P zm_law.1.1.cls)).all zz_isN = true := by decide +kernel
set_option maxRecDepth 100000 in
theorem zb_law_3 : zl_law_3.all (fun r => zz_wb zt_hh zp_P zt_cl zt_tf zt_fd zt_nf zm_law.1.1.cls zm_law.1.1.name r) = true := by decide +kernel
set_option maxRecDepth 100000 in
theorem zd_law_4 : ∀ r ∈ zl_law_4, decode zm_law.1.2.1 r.1 = .ok (r.2.1, r.2.2.1) := by decide +kernel
set_option maxRecDepth 100000 in
theorem zq_law_4 : (zl_law_4.flatMap (zz_wr zt_hh zp_P zt_cl zm_law.1.1.cls)).map some = ([2249, 2250, 2248, 1631, 1632, 1630, 2516, 2517, 2515] : List Nat).map (fun i => lw_tbl[i]?) := by rfl
set_option maxRecDepth 100000 in
theorem zg_law_4 : (zl_law_4.flatMap (zz_wr zt_hh zp_P zt_cl zm_law.1.1.cls)).all goodWord = true := by decide +kernel
set_option maxRecDepth 100000 in
theorem zr_law_4 : (zl_law_4.flatMap (zz_wn zp_P zm_law.1.1.cls)).map some = ([] : List Nat).map (fun i => lw_tbl[i]?) := by rfl
set_option maxRecDepth 100000 in
theorem zs_law_4 : (zl_law_4.flatMap (zz_wn zp_P zm_law.1.1.cls)).all zz_isN = true := by decide +kernel
set_option maxRecDepth 100000 in
theorem zb_law_4 : zl_law_4.all (fun r => zz_wb zt_hh zp_P zt_cl zt_tf zt_fd zt_nf zm_law.1.1.cls zm_law.1.1.name r) = true := by decide +kernel
set_option maxRecDepth 100000 in
theorem zd_law_5 : ∀ r ∈ zl_law_5, decode zm_law.1.2.1 r.1 = .ok (r.2.1, r.2.2.1) := by decide +kernel
set_option maxRecDepth 100000 in
theorem zq_law_5 : (zl_law_5.flatMap (zz_wr zt_hh zp_P zt_cl zm_law.1.1.cls)).map some = ([1639, 1640, 1638, 2520, 2521, 2519, 1647, 1648, 1646, 2524, 2525, 2523, 1655, 1656, 1654, 2528, 2529, 2527] : List Nat).map (fun i => lw_tbl[i]?) := by rfl
set_option maxRecDepth 100000 in
theorem zg_law_5 : (zl_law_5.flatMap (zz_wr zt_hh zp_P zt_cl zm_law.1.1.cls)).all goodWord = true := by decide +kernel
set_option maxRecDepth 100000 in
theorem zr_law_5 : (zl_law_5.flatMap (zz_wn zp_P zm_law.1.1.cls)).map some = ([] : List Nat).map (fun i => lw_tbl[i]?) := by rfl
set_option maxRecDepth 100000 in
theorem zs_law_5 : (zl_law_5.flatMap (zz_wn zp_P zm_law.1.1.cls)).all zz_isN = true := by decide +kernel
set_option maxRecDepth 100000 in
theorem zb_law_5 : zl_law_5.all (fun r => zz_wb zt_hh zp_P zt_cl zt_tf zt_fd zt_nf zm_law.1.1.cls zm_law.1.1.name r) = true := by decide +kernel
set_option maxRecDepth 100000 in
theorem zd_law_6 : ∀ r ∈ zl_law_6, decode zm_law.1.2.1 r.1 = .ok (r.2.1, r.2.2.1) := by decide +kernel
set_option maxRecDepth 100000 in
theorem zq_law_6 : (zl_law_6.flatMap (zz_wr zt_hh zp_P zt_cl zm_law.1.1.cls)).map some = ([1668, 1669, 1667, 2535, 2536, 2534, 1676, 1677, 1675] : List Nat).map (fun i => lw_tbl[i]?) := by rfl
set_option maxRecDepth 100000 in
theorem zg_law_6 : (zl_law_6.flatMap (zz_wr zt_hh zp_P zt_cl zm_law.1.1.cls)).all goodWord = true := by decide +kernel
set_option maxRecDepth 100000 in
theorem zr_law_6 : (zl_law_6.flatMap (zz_wn zp_P zm_law.1.1.cls)).map some = ([] : List Nat).map (fun i => lw_tbl[i]?) := by rfl
set_option maxRecDepth 100000 in
theorem zs_law_6 : (zl_law_6.flatMap (zz_wn zp_P zm_law.1.1.cls)).all zz_isN = true := by decide +kernel
set_option maxRecDepth 100000 in
theorem zb_law_6 : zl_law_6.all (fun r => zz_wb zt_hh zp_P zt_cl zt_tf zt_fd zt_nf zm_law.1.1.cls zm_law.1.1.name r) = true := by decide +kernel
set_option maxRecDepth 100000 in
theorem zd_law_7 : ∀ r ∈ zl_law_7, decode zm_law.1.2.1 r.1 = .ok (r.2.1, r.2.2.1) := by decide +kernel
set_option maxRecDepth 100000 in
theorem zq_law_7 : (zl_law_7.flatMap (zz_wr zt_hh zp_P zt_cl zm_law.1.1.cls)).map some = ([2539, 2540, 2538, 1685, 1686, 1684, 2543, 2544, 2542, 1693, 1694, 1692, 2547, 2548, 2546] : List Nat).map (fun i => lw_tbl[i]?) := by rfl
set_option maxRecDepth 100000 in
theorem zg_law_7 : (zl_law_7.flatMap (zz_wr zt_hh zp_P zt_cl zm_law.1.1.cls)).all goodWord = true := by decide +kernel
set_option maxRecDepth 100000 in
theorem zr_law_7 : (zl_law_7.flatMap (zz_wn zp_P zm_law.1.1.cls)).map some = ([] : List Nat).map (fun i => lw_tbl[i]?) := by rfl
set_option maxRecDepth 100000 in
theorem zs_law_7 : (zl_law_7.flatMap (zz_wn zp_P zm_law.1.1.cls)).all zz_isN = true := by decide +kernel
set_option maxRecDepth 100000 in
theorem zb_law_7 : zl_law_7.all (fun r => zz_wb zt_hh zp_P zt_cl zt_tf zt_fd zt_nf zm_law.1.1.cls zm_law.1.1.name r) = true := by decide +kernel
set_option maxRecDepth 100000 in
theorem zd_law_8 : ∀ r ∈ zl_law_8, decode zm_law.1.2.1 r.1 = .ok (r.2.1, r.2.2.1) := by decide +kernel
set_option maxRecDepth 100000 in
theorem zq_law_8 : (zl_law_8.flatMap (zz_wr zt_hh zp_P zt_cl zm_law.1.1.cls)).map some = ([1697, 1698, 1696, 2551, 2552, 2550] : List Nat).map (fun i => lw_tbl[i]?) := by rfl
set_option maxRecDepth 100000 in
theorem zg_law_8 : (zl_law_8.flatMap (zz_wr zt_hh zp_P zt_cl zm_law.1.1.cls)).all goodWord = true := by decide +kernel
set_option maxRecDepth 100000 in
theorem zr_law_8 : (zl_law_8.flatMap (zz_wn zp_P zm_law.1.1.cls)).map some = ([] : List Nat).map (fun i => lw_tbl[i]?) := by rfl
set_option maxRecDepth 100000 in
theorem zs_law_8 : (zl_law_8.flatMap (zz_wn zp_P zm_law.1.1.cls)).all zz_isN = true := by decide +kernel
set_option maxRecDepth 100000 in
theorem zb_law_8 : zl_law_8.all (fun r => zz_wb zt_hh zp_P zt_cl zt_tf zt_fd zt_nf zm_law.1.1.cls zm_law.1.1.name r) = true := by decide +kernel
set_option maxRecDepth 100000 in
theorem zd_law_9 : ∀ r ∈ zl_law_9, decode zm_law.1.2.1 r.1 = .ok (r.2.1, r.2.2.1) := by decide +kernel
set_option maxRecDepth 100000 in
theorem zq_law_9 : (zl_law_9.flatMap (zz_wr zt_hh zp_P zt_cl zm_law.1.1.cls)).map some = ([1704, 1705, 1703, 2556, 2557, 2555, 1710, 1711, 1709] : List Nat).map (fun i => lw_tbl[i]?) := by rfl
set_option maxRecDepth 100000 in
theorem zg_law_9 : (zl_law_9.flatMap (zz_wr zt_hh zp_P zt_cl zm_law.1.1.cls)).all goodWord = true := by decide +kernel
set_option maxRecDepth 100000 in
theorem zr_law_9 : (zl_law_9.flatMap (zz_wn zp_P zm_law.1.1.cls)).map some = ([] : List Nat).map (fun i => lw_tbl[i]?) := by rfl
set_option maxRecDepth 100000 in
theorem zs_law_9 : (zl_law_9.flatMap (zz_wn zp_P zm_law.1.1.cls)).all zz_isN = true := by decide +kernel
set_option maxRecDepth 100000 in
theorem zb_law_9 : zl_law_9.all (fun r => zz_wb zt_hh zp_P zt_cl zt_tf zt_fd zt_nf zm_law.1.1.cls zm_law.1.1.name r) = true := by decide +kernel
set_option maxRecDepth 100000 in
theorem zd_law_10 : ∀ r ∈ zl_law_10, decode zm_law.1.2.1 r.1 = .ok (r.2.1, r.2.2.1) := by decide +kernel
set_option maxRecDepth 100000 in
theorem zq_law_10 : (zl_law_10.flatMap (zz_wr zt_hh zp_P zt_cl zm_law.1.1.cls)).map some = ([2560, 2561, 2559, 1718, 1719, 1717, 2564, 2565, 2563, 1731, 1732, 1730, 2568, 2569, 2567, 1735, 1736, 1734, 2572, 2573, 2571] : List Nat).map (fun i => lw_tbl[i]?) := by rfl
set_option maxRecDepth 100000 in
theorem zg_law_10 : (zl_law_10.flatMap (zz_wr zt_hh zp_P zt_cl zm_law.1.1.cls)).all goodWord = true := by decide +kernel
set_option maxRecDepth 100000 in
theorem zr_law_10 : (zl_law_10.flatMap (zz_wn zp_P zm_law.1.1.cls)).map some = ([] : List Nat).map (fun i => lw_tbl[i]?) := by rfl
set_option maxRecDepth 100000 in
theorem zs_law_10 : (zl_law_10.flatMap (zz_wn zp_P zm_law.1.1.cls)).all zz_isN = true := by decide +kernel
set_option maxRecDepth 100000 in
theorem zb_law_10 : zl_law_10.all (fun r => zz_wb zt_hh zp_P zt_cl zt_tf zt_fd zt_nf zm_law.1.1.cls zm_law.1.1.name r) = true := by decide +kernel
theorem zw_law : zz_okW zt_hh zp_P zt_cl zt_tf zt_fd zt_nf zt_T zt_N zm_law := List.forall_mem_append.mpr ⟨(zz_w_okL zd_law_0 zb_law_0 (zz_places goodWord zq_law_0 zg_law_0) (zz_places zz_isN zr_law_0 zs_law_0)), List.forall_mem_append.mpr ⟨(zz_w_okL zd_law_1 zb_law_1 (zz_places goodWord zq_law_1 zg_law_1) (zz_places zz_isN zr_law_1 zs_law_1)), List.forall_mem_append.mpr ⟨(zz_w_okL zd_law_2 zb_law_2 (zz_places goodWord zq_law_2 zg_law_2) (zz_places zz_isN zr_law_2 zs_law_2)), List.forall_mem_append.mpr ⟨(zz_w_okL zd_law_3 zb_law_3 (zz_places goodWord zq_law_3 zg_law_3) (zz_places zz_isN zr_law_3 zs_law_3)), List.forall_mem_append.mpr ⟨(zz_w_okL zd_law_4 zb_law_4 (zz_places goodWord zq_law_4 zg_law_4) (zz_places zz_isN zr_law_4 zs_law_4)), List.forall_mem_append.mpr ⟨(zz_w_okL zd_law_5 zb_law_5 (zz_places goodWord zq_law_5 zg_law_5) (zz_places zz_isN zr_law_5 zs_law_5)), List.forall_mem_append.mpr ⟨(zz_w_okL zd_law_6 zb_law_6 (zz_places goodWord zq_law_6 zg_law_6) (zz_places zz_isN zr_law_6 zs_law_6)), List.forall_mem_append.mpr ⟨(zz_w_okL zd_law_7 zb_law_7 (zz_places goodWord zq_law_7 zg_law_7) (zz_places zz_isN zr_law_7 zs_law_7)), List.forall_mem_append.mpr ⟨(zz_w_okL zd_law_8 zb_law_8 (zz_places goodWord zq_law_8 zg_law_8) (zz_places zz_isN zr_law_8 zs_law_8)), List.forall_mem_append.mpr ⟨(zz_w_okL zd_law_9 zb_law_9 (zz_places goodWord zq_law_9 zg_law_9) (zz_places zz_isN zr_law_9 zs_law_9)), (zz_w_okL zd_law_10 zb_law_10 (zz_places goodWord zq_law_10 zg_law_10) (zz_places zz_isN zr_law_10 zs_law_10))⟩⟩⟩⟩⟩⟩⟩⟩⟩⟩
set_option maxRecDepth 100000 in
theorem zd_0_0 : ∀ r ∈ zl_0_0, decode zm_0.1.2.1 r.1 = .ok (r.2.1, r.2.2.1) := by decide +kernel
set_option maxRecDepth 100000 in
theorem zq_0_0 : (zl_0_0.flatMap (zz_wr zt_hh zp_P zt_cl zm_0.1.1.cls)).map some = ([248, 249, 250, 288, 544, 251, 252, 217, 254, 546, 328, 329, 219, 331, 547, 328, 329, 219, 331, 548, 549, 550, 365, 366, 220, 368, 551, 365, 552, 384, 385, 221, 387] : List Nat).map (fun i => lw_tbl[i]?) := by rfl
set_option maxRecDepth 100000 in
theorem zg_0_0 : (zl_0_0.flatMap (zz_wr zt_hh zp_P zt_cl zm_0.1.1.cls)).all goodWord = true := by decide +kernel
set_option maxRecDepth 100000 in
theorem zr_0_0 : (zl_0_0.flatMap (zz_wn zp_P zm_0.1.1.cls)).map some = ([253, 330, 330, 367, 383, 386] : List Nat).map (fun i => lw_tbl[i]?) := by rfl
set_option maxRecDepth 100000 in
theorem zs_0_0 : (zl_0_0.flatMap (zz_wn zp_P zm_0.1.1.cls)).all zz_isN = true := by decide +kernel
set_option maxRecDepth 100000 in
theorem zb_0_0 : zl_0_0.all (fun r => zz_wb zt_hh zp_P zt_cl zt_tf zt_fd zt_nf zm_0.1.1.cls zm_0.1.1.name r) = true := by decide +kernel
set_option maxRecDepth 100000 in
theorem zd_0_1 : ∀ r ∈ zl_0_1, decode zm_0.1.2.1 r.1 = .ok (r.2.1, r.2.2.1) := by decide +kernel
set_option maxRecDepth 100000 in
theorem zq_0_1 : (zl_0_1.flatMap (zz_wr zt_hh zp_P zt_cl zm_0.1.1.cls)).map some = ([554, 403, 404, 222, 406, 555, 419, 420, 223, 422, 556, 453, 454, 224, 554, 555, 556, 456, 455, 557] : List Nat).map (fun i => lw_tbl[i]?) := by rfl
set_option maxRecDepth 100000 in
theorem zg_0_1 : (zl_0_1.flatMap (zz_wr zt_hh zp_P zt_cl zm_0.1.1.cls)).all goodWord = true := by decide +kernel
set_option maxRecDepth 100000 in
theorem zr_0_1 : (zl_0_1.flatMap (zz_wn zp_P zm_0.1.1.cls)).map some = ([405, 421] : List Nat).map (fun i => lw_tbl[i]?) := by rfl
set_option maxRecDepth 100000 in
theorem zs_0_1 : (zl_0_1.flatMap (zz_wn zp_P zm_0.1.1.cls)).all zz_isN = true := by decide +kernel
set_option maxRecDepth 100000 in
theorem zb_0_1 : zl_0_1.all (fun r => zz_wb zt_hh zp_P zt_cl zt_tf zt_fd zt_nf zm_0.1.1.cls zm_0.1.1.name r) = true := by decide +kernel
theorem zw_0 : zz_okW zt_hh zp_P zt_cl zt_tf zt_fd zt_nf zt_T zt_N zm_0 := List.forall_mem_append.mpr ⟨(zz_w_okL zd_0_0 zb_0_0 (zz_places goodWord zq_0_0 zg_0_0) (zz_places zz_isN zr_0_0 zs_0_0)), (zz_w_okL zd_0_1 zb_0_1 (zz_places goodWord zq_0_1 zg_0_1) (zz_places zz_isN zr_0_1 zs_0_1))⟩
set_option maxRecDepth 100000 in
theorem zq_0 : [zz_cw zt_hh zm_0, Cond.initialized zm_0.1.1.cls].map some = ([247, 216] : List Nat).map (fun i => lw_tbl[i]?) := by rfl
set_option maxRecDepth 100000 in
theorem zg_0 : [zz_cw zt_hh zm_0, Cond.initialized zm_0.1.1.cls].all goodWord = true := by decide +kernel
set_option maxRecDepth 100000 in
theorem zb_0 : (plainName zm_0.1.1.cls && (decide (zm_0.1.1.cls ≠ "java/lang/invoke/MethodHandle" ∧ zm_0.1.1.cls ≠ "java/lang/invoke/VarHandle") && decide (zm_0.1.2.2.1 ≤ 40))) = true := by decide +kernel
theorem zo_0 : zz_okM zt_hh zp_P zt_cl zt_tf zt_fd zt_nf zt_T zt_N zm_0 := zz_w_okM zw_0 zb_0 (zz_places goodWord zq_0 zg_0)
