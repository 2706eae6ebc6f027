set_option maxRecDepth 100000 in
theorem zq_313_0 : (zl_313_0.flatMap (zz_wr zt_hh zp_P zt_cl zm_313.1.1.cls)).map some = ([1815, 2269, 153, 2267, 1816, 2273, 154, 2271, 1816, 2277, 155, 2275, 1862, 2261, 151, 2259, 1816, 2277, 155, 2275, 1816] : List Nat).map (fun i => lw_tbl[i]?) := by rfl
set_option maxRecDepth 100000 in
theorem zg_313_0 : (zl_313_0.flatMap (zz_wr zt_hh zp_P zt_cl zm_313.1.1.cls)).all goodWord = true := by decide +kernel
set_option maxRecDepth 100000 in
theorem zr_313_0 : (zl_313_0.flatMap (zz_wn zp_P zm_313.1.1.cls)).map some = ([] : List Nat).map (fun i => lw_tbl[i]?) := by rfl
set_option maxRecDepth 100000 in
theorem zs_313_0 : (zl_313_0.flatMap (zz_wn zp_P zm_313.1.1.cls)).all zz_isN = true := by decide +kernel
set_option maxRecDepth 100000 in
theorem zb_313_0 : zl_313_0.all (fun r => zz_wb zt_hh zp_P zt_cl zt_tf zt_fd zt_nf zm_313.1.1.cls zm_313.1.1.name r) = true := by decide +kernel
set_option maxRecDepth 100000 in
theorem zd_313_1 : ∀ r ∈ zl_313_1, decode zm_313.1.2.1 r.1 = .ok (r.2.1, r.2.2.1) := by decide +kernel
set_option maxRecDepth 100000 in
theorem zq_313_1 : (zl_313_1.flatMap (zz_wr zt_hh zp_P zt_cl zm_313.1.1.cls)).map some = ([2281, 156, 2279, 2273, 154, 2271, 2269, 153, 2267, 1858, 2285, 157, 2283, 2460, 197, 2458, 1843, 1843, 1816, 1841, 1843, 1842, 1843, 2464, 198, 2462] : List Nat).map (fun i => lw_tbl[i]?) := by rfl
set_option maxRecDepth 100000 in
theorem zg_313_1 : (zl_313_1.flatMap (zz_wr zt_hh zp_P zt_cl zm_313.1.1.cls)).all goodWord = true := by decide +kernel
set_option maxRecDepth 100000 in
theorem zr_313_1 : (zl_313_1.flatMap (zz_wn zp_P zm_313.1.1.cls)).map some = ([] : List Nat).map (fun i => lw_tbl[i]?) := by rfl
set_option maxRecDepth 100000 in
theorem zs_313_1 : (zl_313_1.flatMap (zz_wn zp_P zm_313.1.1.cls)).all zz_isN = true := by decide +kernel
set_option maxRecDepth 100000 in
theorem zb_313_1 : zl_313_1.all (fun r => zz_wb zt_hh zp_P zt_cl zt_tf zt_fd zt_nf zm_313.1.1.cls zm_313.1.1.name r) = true := by decide +kernel
set_option maxRecDepth 100000 in
theorem zd_313_2 : ∀ r ∈ zl_313_2, decode zm_313.1.2.1 r.1 = .ok (r.2.1, r.2.2.1) := by decide +kernel
set_option maxRecDepth 100000 in
theorem zq_313_2 : (zl_313_2.flatMap (zz_wr zt_hh zp_P zt_cl zm_313.1.1.cls)).map some = ([2468, 199, 2466, 1816, 1861, 2472, 200, 2470, 1843, 1843, 1816, 1862, 1843, 2456, 196, 2454, 1874, 1871] : List Nat).map (fun i => lw_tbl[i]?) := by rfl
set_option maxRecDepth 100000 in
theorem zg_313_2 : (zl_313_2.flatMap (zz_wr zt_hh zp_P zt_cl zm_313.1.1.cls)).all goodWord = true := by decide +kernel
set_option maxRecDepth 100000 in
theorem zr_313_2 : (zl_313_2.flatMap (zz_wn zp_P zm_313.1.1.cls)).map some = ([] : List Nat).map (fun i => lw_tbl[i]?) := by rfl
set_option maxRecDepth 100000 in
theorem zs_313_2 : (zl_313_2.flatMap (zz_wn zp_P zm_313.1.1.cls)).all zz_isN = true := by decide +kernel
set_option maxRecDepth 100000 in
theorem zb_313_2 : zl_313_2.all (fun r => zz_wb zt_hh zp_P zt_cl zt_tf zt_fd zt_nf zm_313.1.1.cls zm_313.1.1.name r) = true := by decide +kernel
set_option maxRecDepth 100000 in
theorem zd_313_3 : ∀ r ∈ zl_313_3, decode zm_313.1.2.1 r.1 = .ok (r.2.1, r.2.2.1) := by decide +kernel
set_option maxRecDepth 100000 in
theorem zq_313_3 : (zl_313_3.flatMap (zz_wr zt_hh zp_P zt_cl zm_313.1.1.cls)).map some = ([1817, 1871, 1871, 1816, 1861, 1843, 1843, 2476, 201, 2474] : List Nat).map (fun i => lw_tbl[i]?) := by rfl
set_option maxRecDepth 100000 in
theorem zg_313_3 : (zl_313_3.flatMap (zz_wr zt_hh zp_P zt_cl zm_313.1.1.cls)).all goodWord = true := by decide +kernel
set_option maxRecDepth 100000 in
theorem zr_313_3 : (zl_313_3.flatMap (zz_wn zp_P zm_313.1.1.cls)).map some = ([] : List Nat).map (fun i => lw_tbl[i]?) := by rfl
set_option maxRecDepth 100000 in
theorem zs_313_3 : (zl_313_3.flatMap (zz_wn zp_P zm_313.1.1.cls)).all zz_isN = true := by decide +kernel
set_option maxRecDepth 100000 in
theorem zb_313_3 : zl_313_3.all (fun r => zz_wb zt_hh zp_P zt_cl zt_tf zt_fd zt_nf zm_313.1.1.cls zm_313.1.1.name r) = true := by decide +kernel
set_option maxRecDepth 100000 in
theorem zy_313_0 : zl_313_0.all (fun r => zz_tb zt_hh zp_P zm_313 r) = true := by decide +kernel
set_option maxRecDepth 100000 in
theorem zy_313_1 : zl_313_1.all (fun r => zz_tb zt_hh zp_P zm_313 r) = true := by decide +kernel
set_option maxRecDepth 100000 in
theorem zy_313_2 : zl_313_2.all (fun r => zz_tb zt_hh zp_P zm_313 r) = true := by decide +kernel
set_option maxRecDepth 100000 in
theorem zy_313_3 : zl_313_3.all (fun r => zz_tb zt_hh zp_P zm_313 r) = true := by decide +kernel
theorem zw_313 : zz_okW zt_hh zp_P zt_cl zt_tf zt_fd zt_nf zt_T zt_N zm_313 := List.forall_mem_cons.mpr ⟨(zz_w_okL zd_313_0 zb_313_0 (zz_places goodWord zq_313_0 zg_313_0) (zz_places zz_isN zr_313_0 zs_313_0) zy_313_0), List.forall_mem_cons.mpr ⟨(zz_w_okL zd_313_1 zb_313_1 (zz_places goodWord zq_313_1 zg_313_1) (zz_places zz_isN zr_313_1 zs_313_1) zy_313_1), List.forall_mem_cons.mpr ⟨(zz_w_okL zd_313_2 zb_313_2 (zz_places goodWord zq_313_2 zg_313_2) (zz_places zz_isN zr_313_2 zs_313_2) zy_313_2), List.forall_mem_cons.mpr ⟨(zz_w_okL zd_313_3 zb_313_3 (zz_places goodWord zq_313_3 zg_313_3) (zz_places zz_isN zr_313_3 zs_313_3) zy_313_3), (fun _ h => absurd h List.not_mem_nil)⟩⟩⟩⟩
set_option maxRecDepth 100000 in
theorem zq_313 : [zz_cw zt_hh zm_313, Cond.initialized zm_313.1.1.cls].map some = ([2266, 227] : List Nat).map (fun i => lw_tbl[i]?) := by rfl
set_option maxRecDepth 100000 in
theorem zg_313 : [zz_cw zt_hh zm_313, Cond.initialized zm_313.1.1.cls].all goodWord = true := by decide +kernel
set_option maxRecDepth 100000 in
theorem zb_313 : (plainName zm_313.1.1.cls && (decide (zm_313.1.1.cls ≠ "java/lang/invoke/MethodHandle" ∧ zm_313.1.1.cls ≠ "java/lang/invoke/VarHandle") && decide (zm_313.1.2.2.1 ≤ 40))) = true := by decide +kernel
theorem zo_313 : zz_okM zt_hh zp_P zt_cl zt_tf zt_fd zt_nf zt_T zt_N zm_313 := zz_w_okM zw_313 zb_313 (zz_places goodWord zq_313 zg_313)
set_option maxRecDepth 100000 in
theorem zd_314_0 : ∀ r ∈ zl_314_0, decode zm_314.1.2.1 r.1 = .ok (r.2.1, r.2.2.1) := by decide +kernel
set_option maxRecDepth 100000 in
theorem zq_314_0 : (zl_314_0.flatMap (zz_wr zt_hh zp_P zt_cl zm_314.1.1.cls)).map some = ([1815, 1841, 1843, 1862, 2261, 151, 2259, 1842, 1843, 1816, 1861] : List Nat).map (fun i => lw_tbl[i]?) := by rfl
set_option maxRecDepth 100000 in
theorem zg_314_0 : (zl_314_0.flatMap (zz_wr zt_hh zp_P zt_cl zm_314.1.1.cls)).all goodWord = true := by decide +kernel
set_option maxRecDepth 100000 in
theorem zr_314_0 : (zl_314_0.flatMap (zz_wn zp_P zm_314.1.1.cls)).map some = ([] : List Nat).map (fun i => lw_tbl[i]?) := by rfl
set_option maxRecDepth 100000 in
theorem zs_314_0 : (zl_314_0.flatMap (zz_wn zp_P zm_314.1.1.cls)).all zz_isN = true := by decide +kernel
set_option maxRecDepth 100000 in
theorem zb_314_0 : zl_314_0.all (fun r => zz_wb zt_hh zp_P zt_cl zt_tf zt_fd zt_nf zm_314.1.1.cls zm_314.1.1.name r) = true := by decide +kernel
set_option maxRecDepth 100000 in
theorem zd_314_1 : ∀ r ∈ zl_314_1, decode zm_314.1.2.1 r.1 = .ok (r.2.1, r.2.2.1) := by decide +kernel
set_option maxRecDepth 100000 in
theorem zq_314_1 : (zl_314_1.flatMap (zz_wr zt_hh zp_P zt_cl zm_314.1.1.cls)).map some = ([1842, 1843, 1857, 1862, 2261, 151, 2259, 1841, 1843, 1842, 1843, 1862, 2261, 151, 2259, 1841, 1843] : List Nat).map (fun i => lw_tbl[i]?) := by rfl
set_option maxRecDepth 100000 in
theorem zg_314_1 : (zl_314_1.flatMap (zz_wr zt_hh zp_P zt_cl zm_314.1.1.cls)).all goodWord = true := by decide +kernel
set_option maxRecDepth 100000 in
theorem zr_314_1 : (zl_314_1.flatMap (zz_wn zp_P zm_314.1.1.cls)).map some = ([] : List Nat).map (fun i => lw_tbl[i]?) := by rfl
set_option maxRecDepth 100000 in
theorem zs_314_1 : (zl_314_1.flatMap (zz_wn zp_P zm_314.1.1.cls)).all zz_isN = true := by decide +kernel
set_option maxRecDepth 100000 in
theorem zb_314_1 : zl_314_1.all (fun r => zz_wb zt_hh zp_P zt_cl zt_tf zt_fd zt_nf zm_314.1.1.cls zm_314.1.1.name r) = true := by decide +kernel
set_option maxRecDepth 100000 in
theorem zd_314_2 : ∀ r ∈ zl_314_2, decode zm_314.1.2.1 r.1 = .ok (r.2.1, r.2.2.1) := by decide +kernel
set_option maxRecDepth 100000 in
theorem zq_314_2 : (zl_314_2.flatMap (zz_wr zt_hh zp_P zt_cl zm_314.1.1.cls)).map some = ([1842, 1843, 2456, 196, 2454, 1842, 1843, 1842, 1843, 2300, 160, 2298, 2456, 196, 2454, 1841, 1843, 1842] : List Nat).map (fun i => lw_tbl[i]?) := by rfl
set_option maxRecDepth 100000 in
theorem zg_314_2 : (zl_314_2.flatMap (zz_wr zt_hh zp_P zt_cl zm_314.1.1.cls)).all goodWord = true := by decide +kernel
set_option maxRecDepth 100000 in
theorem zr_314_2 : (zl_314_2.flatMap (zz_wn zp_P zm_314.1.1.cls)).map some = ([] : List Nat).map (fun i => lw_tbl[i]?) := by rfl
set_option maxRecDepth 100000 in
theorem zs_314_2 : (zl_314_2.flatMap (zz_wn zp_P zm_314.1.1.cls)).all zz_isN = true := by decide +kernel
set_option maxRecDepth 100000 in
theorem zb_314_2 : zl_314_2.all (fun r => zz_wb zt_hh zp_P zt_cl zt_tf zt_fd zt_nf zm_314.1.1.cls zm_314.1.1.name r) = true := by decide +kernel
set_option maxRecDepth 100000 in
theorem zd_314_3 : ∀ r ∈ zl_314_3, decode zm_314.1.2.1 r.1 = .ok (r.2.1, r.2.2.1) := by decide +kernel
set_option maxRecDepth 100000 in
theorem zq_314_3 : (zl_314_3.flatMap (zz_wr zt_hh zp_P zt_cl zm_314.1.1.cls)).map some = ([1843, 2480, 202, 2478, 1842, 1843, 2489, 204, 2487, 2484, 203, 2482, 1841, 1843, 1842, 1843, 1865, 1865, 1868, 1865, 1871] : List Nat).map (fun i => lw_tbl[i]?) := by rfl
set_option maxRecDepth 100000 in
theorem zg_314_3 : (zl_314_3.flatMap (zz_wr zt_hh zp_P zt_cl zm_314.1.1.cls)).all goodWord = true := by decide +kernel
set_option maxRecDepth 100000 in
theorem zr_314_3 : (zl_314_3.flatMap (zz_wn zp_P zm_314.1.1.cls)).map some = ([] : List Nat).map (fun i => lw_tbl[i]?) := by rfl
set_option maxRecDepth 100000 in
theorem zs_314_3 : (zl_314_3.flatMap (zz_wn zp_P zm_314.1.1.cls)).all zz_isN = true := by decide +kernel
set_option maxRecDepth 100000 in
theorem zb_314_3 : zl_314_3.all (fun r => zz_wb zt_hh zp_P zt_cl zt_tf zt_fd zt_nf zm_314.1.1.cls zm_314.1.1.name r) = true := by decide +kernel
set_option maxRecDepth 100000 in
theorem zd_314_4 : ∀ r ∈ zl_314_4, decode zm_314.1.2.1 r.1 = .ok (r.2.1, r.2.2.1) := by decide +kernel
set_option maxRecDepth 100000 in
theorem zq_314_4 : (zl_314_4.flatMap (zz_wr zt_hh zp_P zt_cl zm_314.1.1.cls)).map some = ([1866, 1865, 1843, 1867, 1865, 1861, 2273, 154, 2271] : List Nat).map (fun i => lw_tbl[i]?) := by rfl
set_option maxRecDepth 100000 in
theorem zg_314_4 : (zl_314_4.flatMap (zz_wr zt_hh zp_P zt_cl zm_314.1.1.cls)).all goodWord = true := by decide +kernel
set_option maxRecDepth 100000 in
theorem zr_314_4 : (zl_314_4.flatMap (zz_wn zp_P zm_314.1.1.cls)).map some = ([] : List Nat).map (fun i => lw_tbl[i]?) := by rfl
set_option maxRecDepth 100000 in
theorem zs_314_4 : (zl_314_4.flatMap (zz_wn zp_P zm_314.1.1.cls)).all zz_isN = true := by decide +kernel
set_option maxRecDepth 100000 in
theorem zb_314_4 : zl_314_4.all (fun r => zz_wb zt_hh zp_P zt_cl zt_tf zt_fd zt_nf zm_314.1.1.cls zm_314.1.1.name r) = true := by decide +kernel
set_option maxRecDepth 100000 in
theorem zy_314_0 : zl_314_0.all (fun r => zz_tb zt_hh zp_P zm_314 r) = true := by decide +kernel
set_option maxRecDepth 100000 in
theorem zy_314_1 : zl_314_1.all (fun r => zz_tb zt_hh zp_P zm_314 r) = true := by decide +kernel
set_option maxRecDepth 100000 in
theorem zy_314_2 : zl_314_2.all (fun r => zz_tb zt_hh zp_P zm_314 r) = true := by decide +kernel
set_option maxRecDepth 100000 in
theorem zy_314_3 : zl_314_3.all (fun r => zz_tb zt_hh zp_P zm_314 r) = true := by decide +kernel
set_option maxRecDepth 100000 in
theorem zy_314_4 : zl_314_4.all (fun r => zz_tb zt_hh zp_P zm_314 r) = true := by decide +kernel
theorem zw_314 : zz_okW zt_hh zp_P zt_cl zt_tf zt_fd zt_nf zt_T zt_N zm_314 := List.forall_mem_cons.mpr ⟨(zz_w_okL zd_314_0 zb_314_0 (zz_places goodWord zq_314_0 zg_314_0) (zz_places zz_isN zr_314_0 zs_314_0) zy_314_0), List.forall_mem_cons.mpr ⟨(zz_w_okL zd_314_1 zb_314_1 (zz_places goodWord zq_314_1 zg_314_1) (zz_places zz_isN zr_314_1 zs_314_1) zy_314_1), List.forall_mem_cons.mpr ⟨(zz_w_okL zd_314_2 zb_314_2 (zz_places goodWord zq_314_2 zg_314_2) (zz_places zz_isN zr_314_2 zs_314_2) zy_314_2), List.forall_mem_cons.mpr ⟨(zz_w_okL zd_314_3 zb_314_3 (zz_places goodWord zq_314_3 zg_314_3) (zz_places zz_isN zr_314_3 zs_314_3) zy_314_3), List.forall_mem_cons.mpr ⟨(zz_w_okL zd_314_4 zb_314_4 (zz_places goodWord zq_314_4 zg_314_4) (zz_places zz_isN zr_314_4 zs_314_4) zy_314_4), (fun _ h => absurd h List.not_mem_nil)⟩⟩⟩⟩⟩
set_option maxRecDepth 100000 in
theorem zq_314 : [zz_cw zt_hh zm_314, Cond.initialized zm_314.1.1.cls].map some = ([2477, 227] : List Nat).map (fun i => lw_tbl[i]?) := by rfl
set_option maxRecDepth 100000 in
theorem zg_314 : [zz_cw zt_hh zm_314, Cond.initialized zm_314.1.1.cls].all goodWord = true := by decide +kernel
set_option maxRecDepth 100000 in
theorem zb_314 : (plainName zm_314.1.1.cls && (decide (zm_314.1.1.cls ≠ "java/lang/invoke/MethodHandle" ∧ zm_314.1.1.cls ≠ "java/lang/invoke/VarHandle") && decide (zm_314.1.2.2.1 ≤ 40))) = true := by decide +kernel
theorem zo_314 : zz_okM zt_hh zp_P zt_cl zt_tf zt_fd zt_nf zt_T zt_N zm_314 := zz_w_okM zw_314 zb_314 (zz_places goodWord zq_314 zg_314)
set_option maxRecDepth 100000 in
theorem zd_315_0 : ∀ r ∈ zl_315_0, decode zm_315.1.2.1 r.1 = .ok (r.2.1, r.2.2.1) := by decide +kernel
set_option maxRecDepth 100000 in
theorem zq_315_0 : (zl_315_0.flatMap (zz_wr zt_hh zp_P zt_cl zm_315.1.1.cls)).map some = ([2269, 153, 2267, 1858, 1871, 1874, 1875, 1871, 1871, 1816, 1861, 1873] : List Nat).map (fun i => lw_tbl[i]?) := by rfl
set_option maxRecDepth 100000 in
theorem zg_315_0 : (zl_315_0.flatMap (zz_wr zt_hh zp_P zt_cl zm_315.1.1.cls)).all goodWord = true := by decide +kernel
set_option maxRecDepth 100000 in
theorem zr_315_0 : (zl_315_0.flatMap (zz_wn zp_P zm_315.1.1.cls)).map some = ([] : List Nat).map (fun i => lw_tbl[i]?) := by rfl
set_option maxRecDepth 100000 in
theorem zs_315_0 : (zl_315_0.flatMap (zz_wn zp_P zm_315.1.1.cls)).all zz_isN = true := by decide +kernel
set_option maxRecDepth 100000 in
theorem zb_315_0 : zl_315_0.all (fun r => zz_wb zt_hh zp_P zt_cl zt_tf zt_fd zt_nf zm_315.1.1.cls zm_315.1.1.name r) = true := by decide +kernel
set_option maxRecDepth 100000 in
theorem zd_315_1 : ∀ r ∈ zl_315_1, decode zm_315.1.2.1 r.1 = .ok (r.2.1, r.2.2.1) := by decide +kernel
set_option maxRecDepth 100000 in
theorem zq_315_1 : (zl_315_1.flatMap (zz_wr zt_hh zp_P zt_cl zm_315.1.1.cls)).map some = ([1874, 2273, 154, 2271, 1873, 1874, 2363, 175, 2361, 1874, 1843, 1843, 1817, 1841, 1843] : List Nat).map (fun i => lw_tbl[i]?) := by rfl
set_option maxRecDepth 100000 in
theorem zg_315_1 : (zl_315_1.flatMap (zz_wr zt_hh zp_P zt_cl zm_315.1.1.cls)).all goodWord = true := by decide +kernel
set_option maxRecDepth 100000 in
theorem zr_315_1 : (zl_315_1.flatMap (zz_wn zp_P zm_315.1.1.cls)).map some = ([] : List Nat).map (fun i => lw_tbl[i]?) := by rfl
set_option maxRecDepth 100000 in
theorem zs_315_1 : (zl_315_1.flatMap (zz_wn zp_P zm_315.1.1.cls)).all zz_isN = true := by decide +kernel
set_option maxRecDepth 100000 in
theorem zb_315_1 : zl_315_1.all (fun r => zz_wb zt_hh zp_P zt_cl zt_tf zt_fd zt_nf zm_315.1.1.cls zm_315.1.1.name r) = true := by decide +kernel
set_option maxRecDepth 100000 in
theorem zd_315_2 : ∀ r ∈ zl_315_2, decode zm_315.1.2.1 r.1 = .ok (r.2.1, r.2.2.1) := by decide +kernel
set_option maxRecDepth 100000 in
theorem zq_315_2 : (zl_315_2.flatMap (zz_wr zt_hh zp_P zt_cl zm_315.1.1.cls)).map some = ([1842, 1843, 2464, 198, 2462] : List Nat).map (fun i => lw_tbl[i]?) := by rfl
set_option maxRecDepth 100000 in
theorem zg_315_2 : (zl_315_2.flatMap (zz_wr zt_hh zp_P zt_cl zm_315.1.1.cls)).all goodWord = true := by decide +kernel
set_option maxRecDepth 100000 in
theorem zr_315_2 : (zl_315_2.flatMap (zz_wn zp_P zm_315.1.1.cls)).map some = ([] : List Nat).map (fun i => lw_tbl[i]?) := by rfl
set_option maxRecDepth 100000 in
theorem zs_315_2 : (zl_315_2.flatMap (zz_wn zp_P zm_315.1.1.cls)).all zz_isN = true := by decide +kernel
set_option maxRecDepth 100000 in
theorem zb_315_2 : zl_315_2.all (fun r => zz_wb zt_hh zp_P zt_cl zt_tf zt_fd zt_nf zm_315.1.1.cls zm_315.1.1.name r) = true := by decide +kernel
set_option maxRecDepth 100000 in
theorem zy_315_0 : zl_315_0.all (fun r => zz_tb zt_hh zp_P zm_315 r) = true := by decide +kernel
set_option maxRecDepth 100000 in
theorem zy_315_1 : zl_315_1.all (fun r => zz_tb zt_hh zp_P zm_315 r) = true := by decide +kernel
set_option maxRecDepth 100000 in
theorem zy_315_2 : zl_315_2.all (fun r => zz_tb zt_hh zp_P zm_315 r) = true := by decide +kernel
theorem zw_315 : zz_okW zt_hh zp_P zt_cl zt_tf zt_fd zt_nf zt_T zt_N zm_315 := List.forall_mem_cons.mpr ⟨(zz_w_okL zd_315_0 zb_315_0 (zz_places goodWord zq_315_0 zg_315_0) (zz_places zz_isN zr_315_0 zs_315_0) zy_315_0), List.forall_mem_cons.mpr ⟨(zz_w_okL zd_315_1 zb_315_1 (zz_places goodWord zq_315_1 zg_315_1) (zz_places zz_isN zr_315_1 zs_315_1) zy_315_1), List.forall_mem_cons.mpr ⟨(zz_w_okL zd_315_2 zb_315_2 (zz_places goodWord zq_315_2 zg_315_2) (zz_places zz_isN zr_315_2 zs_315_2) zy_315_2), (fun _ h => absurd h List.not_mem_nil)⟩⟩⟩
set_option maxRecDepth 100000 in
theorem zq_315 : [zz_cw zt_hh zm_315, Cond.initialized zm_315.1.1.cls].map some = ([2473, 227] : List Nat).map (fun i => lw_tbl[i]?) := by rfl
set_option maxRecDepth 100000 in
theorem zg_315 : [zz_cw zt_hh zm_315, Cond.initialized zm_315.1.1.cls].all goodWord = true := by decide +kernel
set_option maxRecDepth 100000 in
theorem zb_315 : (plainName zm_315.1.1.cls && (decide (zm_315.1.1.cls ≠ "java/lang/invoke/MethodHandle" ∧ zm_315.1.1.cls ≠ "java/lang/invoke/VarHandle") && decide (zm_315.1.2.2.1 ≤ 40))) = true := by decide +kernel
theorem zo_315 : zz_okM zt_hh zp_P zt_cl zt_tf zt_fd zt_nf zt_T zt_N zm_315 := zz_w_okM zw_315 zb_315 (zz_places goodWord zq_315 zg_315)
set_option maxRecDepth 100000 in
theorem zd_316_0 : ∀ r ∈ zl_316_0, decode zm_316.1.2.1 r.1 = .ok (r.2.1, r.2.2.1) := by decide +kernel
set_option maxRecDepth 100000 in
theorem zq_316_0 : (zl_316_0.flatMap (zz_wr zt_hh zp_P zt_cl zm_316.1.1.cls)).map some = ([1815, 1816, 2289, 158, 2287, 1816, 2344, 171, 2342, 1843, 1816, 2355, 173, 2353, 2359, 174, 2357, 1816, 1843] : List Nat).map (fun i => lw_tbl[i]?) := by rfl
set_option maxRecDepth 100000 in
theorem zg_316_0 : (zl_316_0.flatMap (zz_wr zt_hh zp_P zt_cl zm_316.1.1.cls)).all goodWord = true := by decide +kernel
set_option maxRecDepth 100000 in
theorem zr_316_0 : (zl_316_0.flatMap (zz_wn zp_P zm_316.1.1.cls)).map some = ([] : List Nat).map (fun i => lw_tbl[i]?) := by rfl
set_option maxRecDepth 100000 in
theorem zs_316_0 : (zl_316_0.flatMap (zz_wn zp_P zm_316.1.1.cls)).all zz_isN = true := by decide +kernel
set_option maxRecDepth 100000 in
theorem zb_316_0 : zl_316_0.all (fun r => zz_wb zt_hh zp_P zt_cl zt_tf zt_fd zt_nf zm_316.1.1.cls zm_316.1.1.name r) = true := by decide +kernel
set_option maxRecDepth 100000 in
theorem zd_316_1 : ∀ r ∈ zl_316_1, decode zm_316.1.2.1 r.1 = .ok (r.2.1, r.2.2.1) := by decide +kernel
set_option maxRecDepth 100000 in
theorem zq_316_1 : (zl_316_1.flatMap (zz_wr zt_hh zp_P zt_cl zm_316.1.1.cls)).map some = ([1817, 2367, 176, 2365, 1816, 1817, 1861, 2257, 150, 2255, 1841, 1843, 1862, 2261, 151, 2259, 1843, 1843] : List Nat).map (fun i => lw_tbl[i]?) := by rfl
set_option maxRecDepth 100000 in
theorem zg_316_1 : (zl_316_1.flatMap (zz_wr zt_hh zp_P zt_cl zm_316.1.1.cls)).all goodWord = true := by decide +kernel
set_option maxRecDepth 100000 in
theorem zr_316_1 : (zl_316_1.flatMap (zz_wn zp_P zm_316.1.1.cls)).map some = ([] : List Nat).map (fun i => lw_tbl[i]?) := by rfl
set_option maxRecDepth 100000 in
theorem zs_316_1 : (zl_316_1.flatMap (zz_wn zp_P zm_316.1.1.cls)).all zz_isN = true := by decide +kernel
set_option maxRecDepth 100000 in
theorem zb_316_1 : zl_316_1.all (fun r => zz_wb zt_hh zp_P zt_cl zt_tf zt_fd zt_nf zm_316.1.1.cls zm_316.1.1.name r) = true := by decide +kernel
set_option maxRecDepth 100000 in
theorem zd_316_2 : ∀ r ∈ zl_316_2, decode zm_316.1.2.1 r.1 = .ok (r.2.1, r.2.2.1) := by decide +kernel
set_option maxRecDepth 100000 in
theorem zq_316_2 : (zl_316_2.flatMap (zz_wr zt_hh zp_P zt_cl zm_316.1.1.cls)).map some = ([1816, 1842, 1843, 1842, 1843, 2300, 160, 2298, 1843, 2456, 196, 2454] : List Nat).map (fun i => lw_tbl[i]?) := by rfl
set_option maxRecDepth 100000 in
theorem zg_316_2 : (zl_316_2.flatMap (zz_wr zt_hh zp_P zt_cl zm_316.1.1.cls)).all goodWord = true := by decide +kernel
set_option maxRecDepth 100000 in
theorem zr_316_2 : (zl_316_2.flatMap (zz_wn zp_P zm_316.1.1.cls)).map some = ([] : List Nat).map (fun i => lw_tbl[i]?) := by rfl
set_option maxRecDepth 100000 in
theorem zs_316_2 : (zl_316_2.flatMap (zz_wn zp_P zm_316.1.1.cls)).all zz_isN = true := by decide +kernel
set_option maxRecDepth 100000 in
theorem zb_316_2 : zl_316_2.all (fun r => zz_wb zt_hh zp_P zt_cl zt_tf zt_fd zt_nf zm_316.1.1.cls zm_316.1.1.name r) = true := by decide +kernel
set_option maxRecDepth 100000 in
theorem zy_316_0 : zl_316_0.all (fun r => zz_tb zt_hh zp_P zm_316 r) = true := by decide +kernel
set_option maxRecDepth 100000 in
theorem zy_316_1 : zl_316_1.all (fun r => zz_tb zt_hh zp_P zm_316 r) = true := by decide +kernel
set_option maxRecDepth 100000 in
theorem zy_316_2 : zl_316_2.all (fun r => zz_tb zt_hh zp_P zm_316 r) = true := by decide +kernel
theorem zw_316 : zz_okW zt_hh zp_P zt_cl zt_tf zt_fd zt_nf zt_T zt_N zm_316 := List.forall_mem_cons.mpr ⟨(zz_w_okL zd_316_0 zb_316_0 (zz_places goodWord zq_316_0 zg_316_0) (zz_places zz_isN zr_316_0 zs_316_0) zy_316_0), List.forall_mem_cons.mpr ⟨(zz_w_okL zd_316_1 zb_316_1 (zz_places goodWord zq_316_1 zg_316_1) (zz_places zz_isN zr_316_1 zs_316_1) zy_316_1), List.forall_mem_cons.mpr ⟨(zz_w_okL zd_316_2 zb_316_2 (zz_places goodWord zq_316_2 zg_316_2) (zz_places zz_isN zr_316_2 zs_316_2) zy_316_2), (fun _ h => absurd h List.not_mem_nil)⟩⟩⟩
set_option maxRecDepth 100000 in
theorem zq_316 : [zz_cw zt_hh zm_316, Cond.initialized zm_316.1.1.cls].map some = ([2286, 227] : List Nat).map (fun i => lw_tbl[i]?) := by rfl
set_option maxRecDepth 100000 in
theorem zg_316 : [zz_cw zt_hh zm_316, Cond.initialized zm_316.1.1.cls].all goodWord = true := by decide +kernel
set_option maxRecDepth 100000 in
theorem zb_316 : (plainName zm_316.1.1.cls && (decide (zm_316.1.1.cls ≠ "java/lang/invoke/MethodHandle" ∧ zm_316.1.1.cls ≠ "java/lang/invoke/VarHandle") && decide (zm_316.1.2.2.1 ≤ 40))) = true := by decide +kernel
theorem zo_316 : zz_okM zt_hh zp_P zt_cl zt_tf zt_fd zt_nf zt_T zt_N zm_316 := zz_w_okM zw_316 zb_316 (zz_places goodWord zq_316 zg_316)
set_option maxRecDepth 100000 in
theorem zd_317_0 : ∀ r ∈ zl_317_0, decode zm_317.1.2.1 r.1 = .ok (r.2.1, r.2.2.1) := by decide +kernel
set_option maxRecDepth 100000 in
theorem zq_317_0 : (zl_317_0.flatMap (zz_wr zt_hh zp_P zt_cl zm_317.1.1.cls)).map some = ([1871, 1874, 1875, 2269, 153, 2267, 1858, 1865, 1862, 2261, 151, 2259, 1873, 1874, 2363, 175, 2361] : List Nat).map (fun i => lw_tbl[i]?) := by rfl
set_option maxRecDepth 100000 in
theorem zg_317_0 : (zl_317_0.flatMap (zz_wr zt_hh zp_P zt_cl zm_317.1.1.cls)).all goodWord = true := by decide +kernel
set_option maxRecDepth 100000 in
theorem zr_317_0 : (zl_317_0.flatMap (zz_wn zp_P zm_317.1.1.cls)).map some = ([] : List Nat).map (fun i => lw_tbl[i]?) := by rfl
set_option maxRecDepth 100000 in
theorem zs_317_0 : (zl_317_0.flatMap (zz_wn zp_P zm_317.1.1.cls)).all zz_isN = true := by decide +kernel
set_option maxRecDepth 100000 in
theorem zb_317_0 : zl_317_0.all (fun r => zz_wb zt_hh zp_P zt_cl zt_tf zt_fd zt_nf zm_317.1.1.cls zm_317.1.1.name r) = true := by decide +kernel
set_option maxRecDepth 100000 in
theorem zd_317_1 : ∀ r ∈ zl_317_1, decode zm_317.1.2.1 r.1 = .ok (r.2.1, r.2.2.1) := by decide +kernel
set_option maxRecDepth 100000 in
theorem zq_317_1 : (zl_317_1.flatMap (zz_wr zt_hh zp_P zt_cl zm_317.1.1.cls)).map some = ([1874, 1817, 1872, 2257, 150, 2255, 1871, 1871, 1872, 1876] : List Nat).map (fun i => lw_tbl[i]?) := by rfl
set_option maxRecDepth 100000 in
theorem zg_317_1 : (zl_317_1.flatMap (zz_wr zt_hh zp_P zt_cl zm_317.1.1.cls)).all goodWord = true := by decide +kernel
set_option maxRecDepth 100000 in
theorem zr_317_1 : (zl_317_1.flatMap (zz_wn zp_P zm_317.1.1.cls)).map some = ([] : List Nat).map (fun i => lw_tbl[i]?) := by rfl
set_option maxRecDepth 100000 in
theorem zs_317_1 : (zl_317_1.flatMap (zz_wn zp_P zm_317.1.1.cls)).all zz_isN = true := by decide +kernel
set_option maxRecDepth 100000 in
theorem zb_317_1 : zl_317_1.all (fun r => zz_wb zt_hh zp_P zt_cl zt_tf zt_fd zt_nf zm_317.1.1.cls zm_317.1.1.name r) = true := by decide +kernel
set_option maxRecDepth 100000 in
theorem zd_317_2 : ∀ r ∈ zl_317_2, decode zm_317.1.2.1 r.1 = .ok (r.2.1, r.2.2.1) := by decide +kernel
set_option maxRecDepth 100000 in
theorem zq_317_2 : (zl_317_2.flatMap (zz_wr zt_hh zp_P zt_cl zm_317.1.1.cls)).map some = ([1839, 1873, 2304, 161, 2302, 1843, 1839, 1873, 1843, 1839] : List Nat).map (fun i => lw_tbl[i]?) := by rfl
set_option maxRecDepth 100000 in
theorem zg_317_2 : (zl_317_2.flatMap (zz_wr zt_hh zp_P zt_cl zm_317.1.1.cls)).all goodWord = true := by decide +kernel
set_option maxRecDepth 100000 in
theorem zr_317_2 : (zl_317_2.flatMap (zz_wn zp_P zm_317.1.1.cls)).map some = ([] : List Nat).map (fun i => lw_tbl[i]?) := by rfl
set_option maxRecDepth 100000 in
theorem zs_317_2 : (zl_317_2.flatMap (zz_wn zp_P zm_317.1.1.cls)).all zz_isN = true := by decide +kernel
set_option maxRecDepth 100000 in
theorem zb_317_2 : zl_317_2.all (fun r => zz_wb zt_hh zp_P zt_cl zt_tf zt_fd zt_nf zm_317.1.1.cls zm_317.1.1.name r) = true := by decide +kernel
set_option maxRecDepth 100000 in
theorem zd_317_3 : ∀ r ∈ zl_317_3, decode zm_317.1.2.1 r.1 = .ok (r.2.1, r.2.2.1) := by decide +kernel
set_option maxRecDepth 100000 in
theorem zq_317_3 : (zl_317_3.flatMap (zz_wr zt_hh zp_P zt_cl zm_317.1.1.cls)).map some = ([1873, 1843, 1841, 2293, 159, 2291] : List Nat).map (fun i => lw_tbl[i]?) := by rfl
set_option maxRecDepth 100000 in
theorem zg_317_3 : (zl_317_3.flatMap (zz_wr zt_hh zp_P zt_cl zm_317.1.1.cls)).all goodWord = true := by decide +kernel
set_option maxRecDepth 100000 in
theorem zr_317_3 : (zl_317_3.flatMap (zz_wn zp_P zm_317.1.1.cls)).map some = ([] : List Nat).map (fun i => lw_tbl[i]?) := by rfl
set_option maxRecDepth 100000 in
theorem zs_317_3 : (zl_317_3.flatMap (zz_wn zp_P zm_317.1.1.cls)).all zz_isN = true := by decide +kernel
set_option maxRecDepth 100000 in
theorem zb_317_3 : zl_317_3.all (fun r => zz_wb zt_hh zp_P zt_cl zt_tf zt_fd zt_nf zm_317.1.1.cls zm_317.1.1.name r) = true := by decide +kernel
set_option maxRecDepth 100000 in
theorem zd_317_4 : ∀ r ∈ zl_317_4, decode zm_317.1.2.1 r.1 = .ok (r.2.1, r.2.2.1) := by decide +kernel
set_option maxRecDepth 100000 in
theorem zq_317_4 : (zl_317_4.flatMap (zz_wr zt_hh zp_P zt_cl zm_317.1.1.cls)).map some = ([2304, 161, 2302, 2304, 161, 2302, 1862, 2261, 151, 2259] : List Nat).map (fun i => lw_tbl[i]?) := by rfl
set_option maxRecDepth 100000 in
theorem zg_317_4 : (zl_317_4.flatMap (zz_wr zt_hh zp_P zt_cl zm_317.1.1.cls)).all goodWord = true := by decide +kernel
set_option maxRecDepth 100000 in
theorem zr_317_4 : (zl_317_4.flatMap (zz_wn zp_P zm_317.1.1.cls)).map some = ([] : List Nat).map (fun i => lw_tbl[i]?) := by rfl
set_option maxRecDepth 100000 in
theorem zs_317_4 : (zl_317_4.flatMap (zz_wn zp_P zm_317.1.1.cls)).all zz_isN = true := by decide +kernel
set_option maxRecDepth 100000 in
theorem zb_317_4 : zl_317_4.all (fun r => zz_wb zt_hh zp_P zt_cl zt_tf zt_fd zt_nf zm_317.1.1.cls zm_317.1.1.name r) = true := by decide +kernel
set_option maxRecDepth 100000 in
theorem zy_317_0 : zl_317_0.all (fun r => zz_tb zt_hh zp_P zm_317 r) = true := by decide +kernel
set_option maxRecDepth 100000 in
theorem zy_317_1 : zl_317_1.all (fun r => zz_tb zt_hh zp_P zm_317 r) = true := by decide +kernel
set_option maxRecDepth 100000 in
theorem zy_317_2 : zl_317_2.all (fun r => zz_tb zt_hh zp_P zm_317 r) = true := by decide +kernel
set_option maxRecDepth 100000 in
theorem zy_317_3 : zl_317_3.all (fun r => zz_tb zt_hh zp_P zm_317 r) = true := by decide +kernel
set_option maxRecDepth 100000 in
theorem zy_317_4 : zl_317_4.all (fun r => zz_tb zt_hh zp_P zm_317 r) = true := by decide +kernel
theorem zw_317 : zz_okW zt_hh zp_P zt_cl zt_tf zt_fd zt_nf zt_T zt_N zm_317 := List.forall_mem_cons.mpr ⟨(zz_w_okL zd_317_0 zb_317_0 (zz_places goodWord zq_317_0 zg_317_0) (zz_places zz_isN zr_317_0 zs_317_0) zy_317_0), List.forall_mem_cons.mpr ⟨(zz_w_okL zd_317_1 zb_317_1 (zz_places goodWord zq_317_1 zg_317_1) (zz_places zz_isN zr_317_1 zs_317_1) zy_317_1), List.forall_mem_cons.mpr ⟨(zz_w_okL zd_317_2 zb_317_2 (zz_places goodWord zq_317_2 zg_317_2) (zz_places zz_isN zr_317_2 zs_317_2) zy_317_2), List.forall_mem_cons.mpr ⟨(zz_w_okL zd_317_3 zb_317_3 (zz_places goodWord zq_317_3 zg_317_3) (zz_places zz_isN zr_317_3 zs_317_3) zy_317_3), List.forall_mem_cons.mpr ⟨(zz_w_okL zd_317_4 zb_317_4 (zz_places goodWord zq_317_4 zg_317_4) (zz_places zz_isN zr_317_4 zs_317_4) zy_317_4), (fun _ h => absurd h List.not_mem_nil)⟩⟩⟩⟩⟩
set_option maxRecDepth 100000 in
theorem zq_317 : [zz_cw zt_hh zm_317, Cond.initialized zm_317.1.1.cls].map some = ([2461, 227] : List Nat).map (fun i => lw_tbl[i]?) := by rfl
set_option maxRecDepth 100000 in
theorem zg_317 : [zz_cw zt_hh zm_317, Cond.initialized zm_317.1.1.cls].all goodWord = true := by decide +kernel
set_option maxRecDepth 100000 in
theorem zb_317 : (plainName zm_317.1.1.cls && (decide (zm_317.1.1.cls ≠ "java/lang/invoke/MethodHandle" ∧ zm_317.1.1.cls ≠ "java/lang/invoke/VarHandle") && decide (zm_317.1.2.2.1 ≤ 40))) = true := by decide +kernel
theorem zo_317 : zz_okM zt_hh zp_P zt_cl zt_tf zt_fd zt_nf zt_T zt_N zm_317 := zz_w_okM zw_317 zb_317 (zz_places goodWord zq_317 zg_317)
set_option maxRecDepth 100000 in
theorem zd_318_0 : ∀ r ∈ zl_318_0, decode zm_318.1.2.1 r.1 = .ok (r.2.1, r.2.2.1) := by decide +kernel
set_option maxRecDepth 100000 in
theorem zq_318_0 : (zl_318_0.flatMap (zz_wr zt_hh zp_P zt_cl zm_318.1.1.cls)).map some = ([1817, 1816, 1843, 1843, 1843, 1843, 2277, 155, 2275] : List Nat).map (fun i => lw_tbl[i]?) := by rfl
set_option maxRecDepth 100000 in
theorem zg_318_0 : (zl_318_0.flatMap (zz_wr zt_hh zp_P zt_cl zm_318.1.1.cls)).all goodWord = true := by decide +kernel
set_option maxRecDepth 100000 in
theorem zr_318_0 : (zl_318_0.flatMap (zz_wn zp_P zm_318.1.1.cls)).map some = ([] : List Nat).map (fun i => lw_tbl[i]?) := by rfl
set_option maxRecDepth 100000 in
theorem zs_318_0 : (zl_318_0.flatMap (zz_wn zp_P zm_318.1.1.cls)).all zz_isN = true := by decide +kernel
set_option maxRecDepth 100000 in
theorem zb_318_0 : zl_318_0.all (fun r => zz_wb zt_hh zp_P zt_cl zt_tf zt_fd zt_nf zm_318.1.1.cls zm_318.1.1.name r) = true := by decide +kernel
set_option maxRecDepth 100000 in
theorem zd_318_1 : ∀ r ∈ zl_318_1, decode zm_318.1.2.1 r.1 = .ok (r.2.1, r.2.2.1) := by decide +kernel
set_option maxRecDepth 100000 in
theorem zq_318_1 : (zl_318_1.flatMap (zz_wr zt_hh zp_P zt_cl zm_318.1.1.cls)).map some = ([1818, 2261, 151, 2259, 2281, 156, 2279, 2277, 155, 2275, 1839, 1841] : List Nat).map (fun i => lw_tbl[i]?) := by rfl
set_option maxRecDepth 100000 in
theorem zg_318_1 : (zl_318_1.flatMap (zz_wr zt_hh zp_P zt_cl zm_318.1.1.cls)).all goodWord = true := by decide +kernel
set_option maxRecDepth 100000 in
theorem zr_318_1 : (zl_318_1.flatMap (zz_wn zp_P zm_318.1.1.cls)).map some = ([] : List Nat).map (fun i => lw_tbl[i]?) := by rfl
set_option maxRecDepth 100000 in
theorem zs_318_1 : (zl_318_1.flatMap (zz_wn zp_P zm_318.1.1.cls)).all zz_isN = true := by decide +kernel
set_option maxRecDepth 100000 in
theorem zb_318_1 : zl_318_1.all (fun r => zz_wb zt_hh zp_P zt_cl zt_tf zt_fd zt_nf zm_318.1.1.cls zm_318.1.1.name r) = true := by decide +kernel
set_option maxRecDepth 100000 in
theorem zd_318_2 : ∀ r ∈ zl_318_2, decode zm_318.1.2.1 r.1 = .ok (r.2.1, r.2.2.1) := by decide +kernel
set_option maxRecDepth 100000 in
theorem zq_318_2 : (zl_318_2.flatMap (zz_wr zt_hh zp_P zt_cl zm_318.1.1.cls)).map some = ([1841, 1841, 1841] : List Nat).map (fun i => lw_tbl[i]?) := by rfl
set_option maxRecDepth 100000 in
theorem zg_318_2 : (zl_318_2.flatMap (zz_wr zt_hh zp_P zt_cl zm_318.1.1.cls)).all goodWord = true := by decide +kernel
set_option maxRecDepth 100000 in
theorem zr_318_2 : (zl_318_2.flatMap (zz_wn zp_P zm_318.1.1.cls)).map some = ([] : List Nat).map (fun i => lw_tbl[i]?) := by rfl
set_option maxRecDepth 100000 in
theorem zs_318_2 : (zl_318_2.flatMap (zz_wn zp_P zm_318.1.1.cls)).all zz_isN = true := by decide +kernel
set_option maxRecDepth 100000 in
theorem zb_318_2 : zl_318_2.all (fun r => zz_wb zt_hh zp_P zt_cl zt_tf zt_fd zt_nf zm_318.1.1.cls zm_318.1.1.name r) = true := by decide +kernel
set_option maxRecDepth 100000 in
theorem zd_318_3 : ∀ r ∈ zl_318_3, decode zm_318.1.2.1 r.1 = .ok (r.2.1, r.2.2.1) := by decide +kernel
set_option maxRecDepth 100000 in
theorem zq_318_3 : (zl_318_3.flatMap (zz_wr zt_hh zp_P zt_cl zm_318.1.1.cls)).map some = ([2293, 159, 2291, 1862, 2261, 151, 2259, 1842, 2300, 160, 2298, 1862, 2261, 151, 2259, 1841, 1842] : List Nat).map (fun i => lw_tbl[i]?) := by rfl
set_option maxRecDepth 100000 in
theorem zg_318_3 : (zl_318_3.flatMap (zz_wr zt_hh zp_P zt_cl zm_318.1.1.cls)).all goodWord = true := by decide +kernel
set_option maxRecDepth 100000 in
theorem zr_318_3 : (zl_318_3.flatMap (zz_wn zp_P zm_318.1.1.cls)).map some = ([] : List Nat).map (fun i => lw_tbl[i]?) := by rfl
set_option maxRecDepth 100000 in
theorem zs_318_3 : (zl_318_3.flatMap (zz_wn zp_P zm_318.1.1.cls)).all zz_isN = true := by decide +kernel
set_option maxRecDepth 100000 in
theorem zb_318_3 : zl_318_3.all (fun r => zz_wb zt_hh zp_P zt_cl zt_tf zt_fd zt_nf zm_318.1.1.cls zm_318.1.1.name r) = true := by decide +kernel
set_option maxRecDepth 100000 in
theorem zd_318_4 : ∀ r ∈ zl_318_4, decode zm_318.1.2.1 r.1 = .ok (r.2.1, r.2.2.1) := by decide +kernel
set_option maxRecDepth 100000 in
theorem zq_318_4 : (zl_318_4.flatMap (zz_wr zt_hh zp_P zt_cl zm_318.1.1.cls)).map some = ([2316, 164, 2314, 1842, 2300, 160, 2298, 1817, 2261, 151, 2259, 2300, 160, 2298] : List Nat).map (fun i => lw_tbl[i]?) := by rfl
set_option maxRecDepth 100000 in
theorem zg_318_4 : (zl_318_4.flatMap (zz_wr zt_hh zp_P zt_cl zm_318.1.1.cls)).all goodWord = true := by decide +kernel
set_option maxRecDepth 100000 in
theorem zr_318_4 : (zl_318_4.flatMap (zz_wn zp_P zm_318.1.1.cls)).map some = ([] : List Nat).map (fun i => lw_tbl[i]?) := by rfl
set_option maxRecDepth 100000 in
theorem zs_318_4 : (zl_318_4.flatMap (zz_wn zp_P zm_318.1.1.cls)).all zz_isN = true := by decide +kernel
set_option maxRecDepth 100000 in
theorem zb_318_4 : zl_318_4.all (fun r => zz_wb zt_hh zp_P zt_cl zt_tf zt_fd zt_nf zm_318.1.1.cls zm_318.1.1.name r) = true := by decide +kernel
set_option maxRecDepth 100000 in
theorem zd_318_5 : ∀ r ∈ zl_318_5, decode zm_318.1.2.1 r.1 = .ok (r.2.1, r.2.2.1) := by decide +kernel
set_option maxRecDepth 100000 in
theorem zq_318_5 : (zl_318_5.flatMap (zz_wr zt_hh zp_P zt_cl zm_318.1.1.cls)).map some = ([1839, 2273, 154, 2271, 2340, 170, 2338, 1843, 1842, 2300, 160, 2298] : List Nat).map (fun i => lw_tbl[i]?) := by rfl
set_option maxRecDepth 100000 in
theorem zg_318_5 : (zl_318_5.flatMap (zz_wr zt_hh zp_P zt_cl zm_318.1.1.cls)).all goodWord = true := by decide +kernel
set_option maxRecDepth 100000 in
theorem zr_318_5 : (zl_318_5.flatMap (zz_wn zp_P zm_318.1.1.cls)).map some = ([] : List Nat).map (fun i => lw_tbl[i]?) := by rfl
set_option maxRecDepth 100000 in
theorem zs_318_5 : (zl_318_5.flatMap (zz_wn zp_P zm_318.1.1.cls)).all zz_isN = true := by decide +kernel
set_option maxRecDepth 100000 in
theorem zb_318_5 : zl_318_5.all (fun r => zz_wb zt_hh zp_P zt_cl zt_tf zt_fd zt_nf zm_318.1.1.cls zm_318.1.1.name r) = true := by decide +kernel
set_option maxRecDepth 100000 in
theorem zd_318_6 : ∀ r ∈ zl_318_6, decode zm_318.1.2.1 r.1 = .ok (r.2.1, r.2.2.1) := by decide +kernel
set_option maxRecDepth 100000 in
theorem zq_318_6 : (zl_318_6.flatMap (zz_wr zt_hh zp_P zt_cl zm_318.1.1.cls)).map some = ([2273, 154, 2271, 2363, 175, 2361, 2304, 161, 2302, 1843, 1858, 1842, 2464, 198, 2462] : List Nat).map (fun i => lw_tbl[i]?) := by rfl
set_option maxRecDepth 100000 in
theorem zg_318_6 : (zl_318_6.flatMap (zz_wr zt_hh zp_P zt_cl zm_318.1.1.cls)).all goodWord = true := by decide +kernel
set_option maxRecDepth 100000 in
theorem zr_318_6 : (zl_318_6.flatMap (zz_wn zp_P zm_318.1.1.cls)).map some = ([] : List Nat).map (fun i => lw_tbl[i]?) := by rfl
set_option maxRecDepth 100000 in
theorem zs_318_6 : (zl_318_6.flatMap (zz_wn zp_P zm_318.1.1.cls)).all zz_isN = true := by decide +kernel
set_option maxRecDepth 100000 in
theorem zb_318_6 : zl_318_6.all (fun r => zz_wb zt_hh zp_P zt_cl zt_tf zt_fd zt_nf zm_318.1.1.cls zm_318.1.1.name r) = true := by decide +kernel
set_option maxRecDepth 100000 in
theorem zy_318_0 : zl_318_0.all (fun r => zz_tb zt_hh zp_P zm_318 r) = true := by decide +kernel
set_option maxRecDepth 100000 in
theorem zy_318_1 : zl_318_1.all (fun r => zz_tb zt_hh zp_P zm_318 r) = true := by decide +kernel
set_option maxRecDepth 100000 in
theorem zy_318_2 : zl_318_2.all (fun r => zz_tb zt_hh zp_P zm_318 r) = true := by decide +kernel
set_option maxRecDepth 100000 in
theorem zy_318_3 : zl_318_3.all (fun r => zz_tb zt_hh zp_P zm_318 r) = true := by decide +kernel
set_option maxRecDepth 100000 in
theorem zy_318_4 : zl_318_4.all (fun r => zz_tb zt_hh zp_P zm_318 r) = true := by decide +kernel
set_option maxRecDepth 100000 in
theorem zy_318_5 : zl_318_5.all (fun r => zz_tb zt_hh zp_P zm_318 r) = true := by decide +kernel
set_option maxRecDepth 100000 in
theorem zy_318_6 : zl_318_6.all (fun r => zz_tb zt_hh zp_P zm_318 r) = true := by decide +kernel
theorem zw_318 : zz_okW zt_hh zp_P zt_cl zt_tf zt_fd zt_nf zt_T zt_N zm_318 := List.forall_mem_cons.mpr ⟨(zz_w_okL zd_318_0 zb_318_0 (zz_places goodWord zq_318_0 zg_318_0) (zz_places zz_isN zr_318_0 zs_318_0) zy_318_0), List.forall_mem_cons.mpr ⟨(zz_w_okL zd_318_1 zb_318_1 (zz_places goodWord zq_318_1 zg_318_1) (zz_places zz_isN zr_318_1 zs_318_1) zy_318_1), List.forall_mem_cons.mpr ⟨(zz_w_okL zd_318_2 zb_318_2 (zz_places goodWord zq_318_2 zg_318_2) (zz_places zz_isN zr_318_2 zs_318_2) zy_318_2), List.forall_mem_cons.mpr ⟨(zz_w_okL zd_318_3 zb_318_3 (zz_places goodWord zq_318_3 zg_318_3) (zz_places zz_isN zr_318_3 zs_318_3) zy_318_3), List.forall_mem_cons.mpr ⟨(zz_w_okL zd_318_4 zb_318_4 (zz_places goodWord zq_318_4 zg_318_4) (zz_places zz_isN zr_318_4 zs_318_4) zy_318_4), List.forall_mem_cons.mpr ⟨(zz_w_okL zd_318_5 zb_318_5 (zz_places goodWord zq_318_5 zg_318_5) (zz_places zz_isN zr_318_5 zs_318_5) zy_318_5), List.forall_mem_cons.mpr ⟨(zz_w_okL zd_318_6 zb_318_6 (zz_places goodWord zq_318_6 zg_318_6) (zz_places zz_isN zr_318_6 zs_318_6) zy_318_6), (fun _ h => absurd h List.not_mem_nil)⟩⟩⟩⟩⟩⟩⟩
set_option maxRecDepth 100000 in
theorem zq_318 : [zz_cw zt_hh zm_318, Cond.initialized zm_318.1.1.cls].map some = ([2469, 227] : List Nat).map (fun i => lw_tbl[i]?) := by rfl
set_option maxRecDepth 100000 in
theorem zg_318 : [zz_cw zt_hh zm_318, Cond.initialized zm_318.1.1.cls].all goodWord = true := by decide +kernel
set_option maxRecDepth 100000 in
theorem zb_318 : (plainName zm_318.1.1.cls && (decide (zm_318.1.1.cls ≠ "java/lang/invoke/MethodHandle" ∧ zm_318.1.1.cls ≠ "java/lang/invoke/VarHandle") && decide (zm_318.1.2.2.1 ≤ 40))) = true := by decide +kernel
theorem zo_318 : zz_okM zt_hh zp_P zt_cl zt_tf zt_fd zt_nf zt_T zt_N zm_318 := zz_w_okM zw_318 zb_318 (zz_places goodWord zq_318 zg_318)
set_option maxRecDepth 100000 in
theorem zd_319_0 : ∀ r ∈ zl_319_0, decode zm_319.1.2.1 r.1 = .ok (r.2.1, r.2.2.1) := by decide +kernel
set_option maxRecDepth 100000 in
theorem zq_319_0 : (zl_319_0.flatMap (zz_wr zt_hh zp_P zt_cl zm_319.1.1.cls)).map some = ([] : List Nat).map (fun i => lw_tbl[i]?) := by rfl
set_option maxRecDepth 100000 in
theorem zg_319_0 : (zl_319_0.flatMap (zz_wr zt_hh zp_P zt_cl zm_319.1.1.cls)).all goodWord = true := by decide +kernel
set_option maxRecDepth 100000 in
theorem zr_319_0 : (zl_319_0.flatMap (zz_wn zp_P zm_319.1.1.cls)).map some = ([] : List Nat).map (fun i => lw_tbl[i]?) := by rfl
set_option maxRecDepth 100000 in
theorem zs_319_0 : (zl_319_0.flatMap (zz_wn zp_P zm_319.1.1.cls)).all zz_isN = true := by decide +kernel
set_option maxRecDepth 100000 in
theorem zb_319_0 : zl_319_0.all (fun r => zz_wb zt_hh zp_P zt_cl zt_tf zt_fd zt_nf zm_319.1.1.cls zm_319.1.1.name r) = true := by decide +kernel
set_option maxRecDepth 100000 in
theorem zd_319_1 : ∀ r ∈ zl_319_1, decode zm_319.1.2.1 r.1 = .ok (r.2.1, r.2.2.1) := by decide +kernel
set_option maxRecDepth 100000 in
theorem zq_319_1 : (zl_319_1.flatMap (zz_wr zt_hh zp_P zt_cl zm_319.1.1.cls)).map some = ([] : List Nat).map (fun i => lw_tbl[i]?) := by rfl
set_option maxRecDepth 100000 in
theorem zg_319_1 : (zl_319_1.flatMap (zz_wr zt_hh zp_P zt_cl zm_319.1.1.cls)).all goodWord = true := by decide +kernel
set_option maxRecDepth 100000 in
theorem zr_319_1 : (zl_319_1.flatMap (zz_wn zp_P zm_319.1.1.cls)).map some = ([] : List Nat).map (fun i => lw_tbl[i]?) := by rfl
set_option maxRecDepth 100000 in
theorem zs_319_1 : (zl_319_1.flatMap (zz_wn zp_P zm_319.1.1.cls)).all zz_isN = true := by decide +kernel
set_option maxRecDepth 100000 in
theorem zb_319_1 : zl_319_1.all (fun r => zz_wb zt_hh zp_P zt_cl zt_tf zt_fd zt_nf zm_319.1.1.cls zm_319.1.1.name r) = true := by decide +kernel
set_option maxRecDepth 100000 in
theorem zy_319_0 : zl_319_0.all (fun r => zz_tb zt_hh zp_P zm_319 r) = true := by decide +kernel
set_option maxRecDepth 100000 in
theorem zy_319_1 : zl_319_1.all (fun r => zz_tb zt_hh zp_P zm_319 r) = true := by decide +kernel
theorem zw_319 : zz_okW zt_hh zp_P zt_cl zt_tf zt_fd zt_nf zt_T zt_N zm_319 := List.forall_mem_cons.mpr ⟨(zz_w_okL zd_319_0 zb_319_0 (zz_places goodWord zq_319_0 zg_319_0) (zz_places zz_isN zr_319_0 zs_319_0) zy_319_0), List.forall_mem_cons.mpr ⟨(zz_w_okL zd_319_1 zb_319_1 (zz_places goodWord zq_319_1 zg_319_1) (zz_places zz_isN zr_319_1 zs_319_1) zy_319_1), (fun _ h => absurd h List.not_mem_nil)⟩⟩
set_option maxRecDepth 100000 in
theorem zq_319 : [zz_cw zt_hh zm_319, Cond.initialized zm_319.1.1.cls].map some = ([2348, 227] : List Nat).map (fun i => lw_tbl[i]?) := by rfl
set_option maxRecDepth 100000 in
theorem zg_319 : [zz_cw zt_hh zm_319, Cond.initialized zm_319.1.1.cls].all goodWord = true := by decide +kernel
set_option maxRecDepth 100000 in
theorem zb_319 : (plainName zm_319.1.1.cls && (decide (zm_319.1.1.cls ≠ "java/lang/invoke/MethodHandle" ∧ zm_319.1.1.cls ≠ "java/lang/invoke/VarHandle") && decide (zm_319.1.2.2.1 ≤ 40))) = true := by decide +kernel
theorem zo_319 : zz_okM zt_hh zp_P zt_cl zt_tf zt_fd zt_nf zt_T zt_N zm_319 := zz_w_okM zw_319 zb_319 (zz_places goodWord zq_319 zg_319)
set_option maxRecDepth 100000 in
theorem zd_320_0 : ∀ r ∈ zl_320_0, decode zm_320.1.2.1 r.1 = .ok (r.2.1, r.2.2.1) := by decide +kernel
set_option maxRecDepth 100000 in
theorem zq_320_0 : (zl_320_0.flatMap (zz_wr zt_hh zp_P zt_cl zm_320.1.1.cls)).map some = ([1839, 2316, 164, 2314] : List Nat).map (fun i => lw_tbl[i]?) := by rfl
set_option maxRecDepth 100000 in
theorem zg_320_0 : (zl_320_0.flatMap (zz_wr zt_hh zp_P zt_cl zm_320.1.1.cls)).all goodWord = true := by decide +kernel
set_option maxRecDepth 100000 in
theorem zr_320_0 : (zl_320_0.flatMap (zz_wn zp_P zm_320.1.1.cls)).map some = ([] : List Nat).map (fun i => lw_tbl[i]?) := by rfl
set_option maxRecDepth 100000 in
theorem zs_320_0 : (zl_320_0.flatMap (zz_wn zp_P zm_320.1.1.cls)).all zz_isN = true := by decide +kernel
set_option maxRecDepth 100000 in
theorem zb_320_0 : zl_320_0.all (fun r => zz_wb zt_hh zp_P zt_cl zt_tf zt_fd zt_nf zm_320.1.1.cls zm_320.1.1.name r) = true := by decide +kernel
set_option maxRecDepth 100000 in
theorem zy_320_0 : zl_320_0.all (fun r => zz_tb zt_hh zp_P zm_320 r) = true := by decide +kernel
theorem zw_320 : zz_okW zt_hh zp_P zt_cl zt_tf zt_fd zt_nf zt_T zt_N zm_320 := List.forall_mem_cons.mpr ⟨(zz_w_okL zd_320_0 zb_320_0 (zz_places goodWord zq_320_0 zg_320_0) (zz_places zz_isN zr_320_0 zs_320_0) zy_320_0), (fun _ h => absurd h List.not_mem_nil)⟩
set_option maxRecDepth 100000 in
theorem zq_320 : [zz_cw zt_hh zm_320, Cond.initialized zm_320.1.1.cls].map some = ([2352, 227] : List Nat).map (fun i => lw_tbl[i]?) := by rfl
set_option maxRecDepth 100000 in
theorem zg_320 : [zz_cw zt_hh zm_320, Cond.initialized zm_320.1.1.cls].all goodWord = true := by decide +kernel
set_option maxRecDepth 100000 in
theorem zb_320 : (plainName zm_320.1.1.cls && (decide (zm_320.1.1.cls ≠ "java/lang/invoke/MethodHandle" ∧ zm_320.1.1.cls ≠ "java/lang/invoke/VarHandle") && decide (zm_320.1.2.2.1 ≤ 40))) = true := by decide +kernel
theorem zo_320 : zz_okM zt_hh zp_P zt_cl zt_tf zt_fd zt_nf zt_T zt_N zm_320 := zz_w_okM zw_320 zb_320 (zz_places goodWord zq_320 zg_320)
set_option maxRecDepth 100000 in
theorem zd_321_0 : ∀ r ∈ zl_321_0, decode zm_321.1.2.1 r.1 = .ok (r.2.1, r.2.2.1) := by decide +kernel
set_option maxRecDepth 100000 in
theorem zq_321_0 : (zl_321_0.flatMap (zz_wr zt_hh zp_P zt_cl zm_321.1.1.cls)).map some = ([1841, 1843, 1842, 1843, 1841, 1843, 1842, 1843, 1843, 2293, 159, 2291] : List Nat).map (fun i => lw_tbl[i]?) := by rfl
set_option maxRecDepth 100000 in
theorem zg_321_0 : (zl_321_0.flatMap (zz_wr zt_hh zp_P zt_cl zm_321.1.1.cls)).all goodWord = true := by decide +kernel
set_option maxRecDepth 100000 in
theorem zr_321_0 : (zl_321_0.flatMap (zz_wn zp_P zm_321.1.1.cls)).map some = ([] : List Nat).map (fun i => lw_tbl[i]?) := by rfl
set_option maxRecDepth 100000 in
theorem zs_321_0 : (zl_321_0.flatMap (zz_wn zp_P zm_321.1.1.cls)).all zz_isN = true := by decide +kernel
set_option maxRecDepth 100000 in
theorem zb_321_0 : zl_321_0.all (fun r => zz_wb zt_hh zp_P zt_cl zt_tf zt_fd zt_nf zm_321.1.1.cls zm_321.1.1.name r) = true := by decide +kernel
set_option maxRecDepth 100000 in
theorem zd_321_1 : ∀ r ∈ zl_321_1, decode zm_321.1.2.1 r.1 = .ok (r.2.1, r.2.2.1) := by decide +kernel
set_option maxRecDepth 100000 in
theorem zq_321_1 : (zl_321_1.flatMap (zz_wr zt_hh zp_P zt_cl zm_321.1.1.cls)).map some = ([1843, 2293, 159, 2291, 1843, 1843, 1843, 1862, 2261, 151, 2259] : List Nat).map (fun i => lw_tbl[i]?) := by rfl
set_option maxRecDepth 100000 in
theorem zg_321_1 : (zl_321_1.flatMap (zz_wr zt_hh zp_P zt_cl zm_321.1.1.cls)).all goodWord = true := by decide +kernel
set_option maxRecDepth 100000 in
theorem zr_321_1 : (zl_321_1.flatMap (zz_wn zp_P zm_321.1.1.cls)).map some = ([] : List Nat).map (fun i => lw_tbl[i]?) := by rfl
set_option maxRecDepth 100000 in
theorem zs_321_1 : (zl_321_1.flatMap (zz_wn zp_P zm_321.1.1.cls)).all zz_isN = true := by decide +kernel
set_option maxRecDepth 100000 in
theorem zb_321_1 : zl_321_1.all (fun r => zz_wb zt_hh zp_P zt_cl zt_tf zt_fd zt_nf zm_321.1.1.cls zm_321.1.1.name r) = true := by decide +kernel
set_option maxRecDepth 100000 in
theorem zd_321_2 : ∀ r ∈ zl_321_2, decode zm_321.1.2.1 r.1 = .ok (r.2.1, r.2.2.1) := by decide +kernel
set_option maxRecDepth 100000 in
theorem zq_321_2 : (zl_321_2.flatMap (zz_wr zt_hh zp_P zt_cl zm_321.1.1.cls)).map some = ([1862, 2261, 151, 2259, 2347, 2346, 2273, 154, 2271, 2300, 160, 2298] : List Nat).map (fun i => lw_tbl[i]?) := by rfl
set_option maxRecDepth 100000 in
theorem zg_321_2 : (zl_321_2.flatMap (zz_wr zt_hh zp_P zt_cl zm_321.1.1.cls)).all goodWord = true := by decide +kernel
set_option maxRecDepth 100000 in
theorem zr_321_2 : (zl_321_2.flatMap (zz_wn zp_P zm_321.1.1.cls)).map some = ([] : List Nat).map (fun i => lw_tbl[i]?) := by rfl
set_option maxRecDepth 100000 in
theorem zs_321_2 : (zl_321_2.flatMap (zz_wn zp_P zm_321.1.1.cls)).all zz_isN = true := by decide +kernel
set_option maxRecDepth 100000 in
theorem zb_321_2 : zl_321_2.all (fun r => zz_wb zt_hh zp_P zt_cl zt_tf zt_fd zt_nf zm_321.1.1.cls zm_321.1.1.name r) = true := by decide +kernel
set_option maxRecDepth 100000 in
theorem zd_321_3 : ∀ r ∈ zl_321_3, decode zm_321.1.2.1 r.1 = .ok (r.2.1, r.2.2.1) := by decide +kernel
set_option maxRecDepth 100000 in
theorem zq_321_3 : (zl_321_3.flatMap (zz_wr zt_hh zp_P zt_cl zm_321.1.1.cls)).map some = ([2300, 160, 2298, 2300, 160, 2298, 2300, 160, 2298, 2351, 172, 2349, 2351, 172, 2349] : List Nat).map (fun i => lw_tbl[i]?) := by rfl
set_option maxRecDepth 100000 in
theorem zg_321_3 : (zl_321_3.flatMap (zz_wr zt_hh zp_P zt_cl zm_321.1.1.cls)).all goodWord = true := by decide +kernel
set_option maxRecDepth 100000 in
theorem zr_321_3 : (zl_321_3.flatMap (zz_wn zp_P zm_321.1.1.cls)).map some = ([] : List Nat).map (fun i => lw_tbl[i]?) := by rfl
set_option maxRecDepth 100000 in
theorem zs_321_3 : (zl_321_3.flatMap (zz_wn zp_P zm_321.1.1.cls)).all zz_isN = true := by decide +kernel
set_option maxRecDepth 100000 in
theorem zb_321_3 : zl_321_3.all (fun r => zz_wb zt_hh zp_P zt_cl zt_tf zt_fd zt_nf zm_321.1.1.cls zm_321.1.1.name r) = true := by decide +kernel
set_option maxRecDepth 100000 in
theorem zd_321_4 : ∀ r ∈ zl_321_4, decode zm_321.1.2.1 r.1 = .ok (r.2.1, r.2.2.1) := by decide +kernel
set_option maxRecDepth 100000 in
theorem zq_321_4 : (zl_321_4.flatMap (zz_wr zt_hh zp_P zt_cl zm_321.1.1.cls)).map some = ([2300, 160, 2298, 2300, 160, 2298, 1862, 2261, 151, 2259, 2351, 172, 2349] : List Nat).map (fun i => lw_tbl[i]?) := by rfl
set_option maxRecDepth 100000 in
theorem zg_321_4 : (zl_321_4.flatMap (zz_wr zt_hh zp_P zt_cl zm_321.1.1.cls)).all goodWord = true := by decide +kernel
set_option maxRecDepth 100000 in
theorem zr_321_4 : (zl_321_4.flatMap (zz_wn zp_P zm_321.1.1.cls)).map some = ([] : List Nat).map (fun i => lw_tbl[i]?) := by rfl
set_option maxRecDepth 100000 in
theorem zs_321_4 : (zl_321_4.flatMap (zz_wn zp_P zm_321.1.1.cls)).all zz_isN = true := by decide +kernel
set_option maxRecDepth 100000 in
theorem zb_321_4 : zl_321_4.all (fun r => zz_wb zt_hh zp_P zt_cl zt_tf zt_fd zt_nf zm_321.1.1.cls zm_321.1.1.name r) = true := by decide +kernel
set_option maxRecDepth 100000 in
theorem zd_321_5 : ∀ r ∈ zl_321_5, decode zm_321.1.2.1 r.1 = .ok (r.2.1, r.2.2.1) := by decide +kernel
set_option maxRecDepth 100000 in
theorem zq_321_5 : (zl_321_5.flatMap (zz_wr zt_hh zp_P zt_cl zm_321.1.1.cls)).map some = ([2351, 172, 2349, 2300, 160, 2298, 2300, 160, 2298, 1843, 1839, 1839] : List Nat).map (fun i => lw_tbl[i]?) := by rfl
set_option maxRecDepth 100000 in
theorem zg_321_5 : (zl_321_5.flatMap (zz_wr zt_hh zp_P zt_cl zm_321.1.1.cls)).all goodWord = true := by decide +kernel
set_option maxRecDepth 100000 in
theorem zr_321_5 : (zl_321_5.flatMap (zz_wn zp_P zm_321.1.1.cls)).map some = ([] : List Nat).map (fun i => lw_tbl[i]?) := by rfl
set_option maxRecDepth 100000 in
theorem zs_321_5 : (zl_321_5.flatMap (zz_wn zp_P zm_321.1.1.cls)).all zz_isN = true := by decide +kernel
set_option maxRecDepth 100000 in
theorem zb_321_5 : zl_321_5.all (fun r => zz_wb zt_hh zp_P zt_cl zt_tf zt_fd zt_nf zm_321.1.1.cls zm_321.1.1.name r) = true := by decide +kernel
set_option maxRecDepth 100000 in
theorem zd_321_6 : ∀ r ∈ zl_321_6, decode zm_321.1.2.1 r.1 = .ok (r.2.1, r.2.2.1) := by decide +kernel
set_option maxRecDepth 100000 in
theorem zq_321_6 : (zl_321_6.flatMap (zz_wr zt_hh zp_P zt_cl zm_321.1.1.cls)).map some = ([1862, 2261, 151, 2259, 2347, 2346, 2273, 154, 2271, 2340, 170, 2338] : List Nat).map (fun i => lw_tbl[i]?) := by rfl
set_option maxRecDepth 100000 in
theorem zg_321_6 : (zl_321_6.flatMap (zz_wr zt_hh zp_P zt_cl zm_321.1.1.cls)).all goodWord = true := by decide +kernel
set_option maxRecDepth 100000 in
theorem zr_321_6 : (zl_321_6.flatMap (zz_wn zp_P zm_321.1.1.cls)).map some = ([] : List Nat).map (fun i => lw_tbl[i]?) := by rfl
set_option maxRecDepth 100000 in
theorem zs_321_6 : (zl_321_6.flatMap (zz_wn zp_P zm_321.1.1.cls)).all zz_isN = true := by decide +kernel
set_option maxRecDepth 100000 in
theorem zb_321_6 : zl_321_6.all (fun r => zz_wb zt_hh zp_P zt_cl zt_tf zt_fd zt_nf zm_321.1.1.cls zm_321.1.1.name r) = true := by decide +kernel
set_option maxRecDepth 100000 in
theorem zd_321_7 : ∀ r ∈ zl_321_7, decode zm_321.1.2.1 r.1 = .ok (r.2.1, r.2.2.1) := by decide +kernel
set_option maxRecDepth 100000 in
theorem zq_321_7 : (zl_321_7.flatMap (zz_wr zt_hh zp_P zt_cl zm_321.1.1.cls)).map some = ([2304, 161, 2302] : List Nat).map (fun i => lw_tbl[i]?) := by rfl
set_option maxRecDepth 100000 in
theorem zg_321_7 : (zl_321_7.flatMap (zz_wr zt_hh zp_P zt_cl zm_321.1.1.cls)).all goodWord = true := by decide +kernel
set_option maxRecDepth 100000 in
theorem zr_321_7 : (zl_321_7.flatMap (zz_wn zp_P zm_321.1.1.cls)).map some = ([] : List Nat).map (fun i => lw_tbl[i]?) := by rfl
set_option maxRecDepth 100000 in
theorem zs_321_7 : (zl_321_7.flatMap (zz_wn zp_P zm_321.1.1.cls)).all zz_isN = true := by decide +kernel
set_option maxRecDepth 100000 in
theorem zb_321_7 : zl_321_7.all (fun r => zz_wb zt_hh zp_P zt_cl zt_tf zt_fd zt_nf zm_321.1.1.cls zm_321.1.1.name r) = true := by decide +kernel
set_option maxRecDepth 100000 in
theorem zy_321_0 : zl_321_0.all (fun r => zz_tb zt_hh zp_P zm_321 r) = true := by decide +kernel
set_option maxRecDepth 100000 in
theorem zy_321_1 : zl_321_1.all (fun r => zz_tb zt_hh zp_P zm_321 r) = true := by decide +kernel
set_option maxRecDepth 100000 in
theorem zy_321_2 : zl_321_2.all (fun r => zz_tb zt_hh zp_P zm_321 r) = true := by decide +kernel
set_option maxRecDepth 100000 in
theorem zy_321_3 : zl_321_3.all (fun r => zz_tb zt_hh zp_P zm_321 r) = true := by decide +kernel
set_option maxRecDepth 100000 in
theorem zy_321_4 : zl_321_4.all (fun r => zz_tb zt_hh zp_P zm_321 r) = true := by decide +kernel
set_option maxRecDepth 100000 in
theorem zy_321_5 : zl_321_5.all (fun r => zz_tb zt_hh zp_P zm_321 r) = true := by decide +kernel
set_option maxRecDepth 100000 in
theorem zy_321_6 : zl_321_6.all (fun r => zz_tb zt_hh zp_P zm_321 r) = true := by decide +kernel
set_option maxRecDepth 100000 in
theorem zy_321_7 : zl_321_7.all (fun r => zz_tb zt_hh zp_P zm_321 r) = true := by decide +kernel
theorem zw_321 : zz_okW zt_hh zp_P zt_cl zt_tf zt_fd zt_nf zt_T zt_N zm_321 := List.forall_mem_cons.mpr ⟨(zz_w_okL zd_321_0 zb_321_0 (zz_places goodWord zq_321_0 zg_321_0) (zz_places zz_isN zr_321_0 zs_321_0) zy_321_0), List.forall_mem_cons.mpr ⟨(zz_w_okL zd_321_1 zb_321_1 (zz_places goodWord zq_321_1 zg_321_1) (zz_places zz_isN zr_321_1 zs_321_1) zy_321_1), List.forall_mem_cons.mpr ⟨(zz_w_okL zd_321_2 zb_321_2 (zz_places goodWord zq_321_2 zg_321_2) (zz_places zz_isN zr_321_2 zs_321_2) zy_321_2), List.forall_mem_cons.mpr ⟨(zz_w_okL zd_321_3 zb_321_3 (zz_places goodWord zq_321_3 zg_321_3) (zz_places zz_isN zr_321_3 zs_321_3) zy_321_3), List.forall_mem_cons.mpr ⟨(zz_w_okL zd_321_4 zb_321_4 (zz_places goodWord zq_321_4 zg_321_4) (zz_places zz_isN zr_321_4 zs_321_4) zy_321_4), List.forall_mem_cons.mpr ⟨(zz_w_okL zd_321_5 zb_321_5 (zz_places goodWord zq_321_5 zg_321_5) (zz_places zz_isN zr_321_5 zs_321_5) zy_321_5), List.forall_mem_cons.mpr ⟨(zz_w_okL zd_321_6 zb_321_6 (zz_places goodWord zq_321_6 zg_321_6) (zz_places zz_isN zr_321_6 zs_321_6) zy_321_6), List.forall_mem_cons.mpr ⟨(zz_w_okL zd_321_7 zb_321_7 (zz_places goodWord zq_321_7 zg_321_7) (zz_places zz_isN zr_321_7 zs_321_7) zy_321_7), (fun _ h => absurd h List.not_mem_nil)⟩⟩⟩⟩⟩⟩⟩⟩
set_option maxRecDepth 100000 in
theorem zq_321 : [zz_cw zt_hh zm_321, Cond.initialized zm_321.1.1.cls].map some = ([2345, 227] : List Nat).map (fun i => lw_tbl[i]?) := by rfl
set_option maxRecDepth 100000 in
theorem zg_321 : [zz_cw zt_hh zm_321, Cond.initialized zm_321.1.1.cls].all goodWord = true := by decide +kernel
set_option maxRecDepth 100000 in
theorem zb_321 : (plainName zm_321.1.1.cls && (decide (zm_321.1.1.cls ≠ "java/lang/invoke/MethodHandle" ∧ zm_321.1.1.cls ≠ "java/lang/invoke/VarHandle") && decide (zm_321.1.2.2.1 ≤ 40))) = true := by decide +kernel
theorem zo_321 : zz_okM zt_hh zp_P zt_cl zt_tf zt_fd zt_nf zt_T zt_N zm_321 := zz_w_okM zw_321 zb_321 (zz_places goodWord zq_321 zg_321)
set_option maxRecDepth 100000 in
theorem zd_322_0 : ∀ r ∈ zl_322_0, decode zm_322.1.2.1 r.1 = .ok (r.2.1, r.2.2.1) := by decide +kernel
set_option maxRecDepth 100000 in
theorem zq_322_0 : (zl_322_0.flatMap (zz_wr zt_hh zp_P zt_cl zm_322.1.1.cls)).map some = ([] : List Nat).map (fun i => lw_tbl[i]?) := by rfl
set_option maxRecDepth 100000 in
theorem zg_322_0 : (zl_322_0.flatMap (zz_wr zt_hh zp_P zt_cl zm_322.1.1.cls)).all goodWord = true := by decide +kernel
set_option maxRecDepth 100000 in
theorem zr_322_0 : (zl_322_0.flatMap (zz_wn zp_P zm_322.1.1.cls)).map some = ([] : List Nat).map (fun i => lw_tbl[i]?) := by rfl
set_option maxRecDepth 100000 in
theorem zs_322_0 : (zl_322_0.flatMap (zz_wn zp_P zm_322.1.1.cls)).all zz_isN = true := by decide +kernel
set_option maxRecDepth 100000 in
theorem zb_322_0 : zl_322_0.all (fun r => zz_wb zt_hh zp_P zt_cl zt_tf zt_fd zt_nf zm_322.1.1.cls zm_322.1.1.name r) = true := by decide +kernel
set_option maxRecDepth 100000 in
theorem zy_322_0 : zl_322_0.all (fun r => zz_tb zt_hh zp_P zm_322 r) = true := by decide +kernel
theorem zw_322 : zz_okW zt_hh zp_P zt_cl zt_tf zt_fd zt_nf zt_T zt_N zm_322 := List.forall_mem_cons.mpr ⟨(zz_w_okL zd_322_0 zb_322_0 (zz_places goodWord zq_322_0 zg_322_0) (zz_places zz_isN zr_322_0 zs_322_0) zy_322_0), (fun _ h => absurd h List.not_mem_nil)⟩
set_option maxRecDepth 100000 in
theorem zq_322 : [zz_cw zt_hh zm_322, Cond.initialized zm_322.1.1.cls].map some = ([2297, 227] : List Nat).map (fun i => lw_tbl[i]?) := by rfl
set_option maxRecDepth 100000 in
theorem zg_322 : [zz_cw zt_hh zm_322, Cond.initialized zm_322.1.1.cls].all goodWord = true := by decide +kernel
set_option maxRecDepth 100000 in
theorem zb_322 : (plainName zm_322.1.1.cls && (decide (zm_322.1.1.cls ≠ "java/lang/invoke/MethodHandle" ∧ zm_322.1.1.cls ≠ "java/lang/invoke/VarHandle") && decide (zm_322.1.2.2.1 ≤ 40))) = true := by decide +kernel
theorem zo_322 : zz_okM zt_hh zp_P zt_cl zt_tf zt_fd zt_nf zt_T zt_N zm_322 := zz_w_okM zw_322 zb_322 (zz_places goodWord zq_322 zg_322)
set_option maxRecDepth 100000 in
theorem zd_323_0 : ∀ r ∈ zl_323_0, decode zm_323.1.2.1 r.1 = .ok (r.2.1, r.2.2.1) := by decide +kernel
set_option maxRecDepth 100000 in
theorem zq_323_0 : (zl_323_0.flatMap (zz_wr zt_hh zp_P zt_cl zm_323.1.1.cls)).map some = ([1843, 2293, 159, 2291, 1843, 1843, 1842, 1843, 1843, 1862, 2261, 151, 2259, 2296, 2295, 2273, 154, 2271] : List Nat).map (fun i => lw_tbl[i]?) := by rfl
set_option maxRecDepth 100000 in
theorem zg_323_0 : (zl_323_0.flatMap (zz_wr zt_hh zp_P zt_cl zm_323.1.1.cls)).all goodWord = true := by decide +kernel
set_option maxRecDepth 100000 in
theorem zr_323_0 : (zl_323_0.flatMap (zz_wn zp_P zm_323.1.1.cls)).map some = ([] : List Nat).map (fun i => lw_tbl[i]?) := by rfl
set_option maxRecDepth 100000 in
theorem zs_323_0 : (zl_323_0.flatMap (zz_wn zp_P zm_323.1.1.cls)).all zz_isN = true := by decide +kernel
set_option maxRecDepth 100000 in
theorem zb_323_0 : zl_323_0.all (fun r => zz_wb zt_hh zp_P zt_cl zt_tf zt_fd zt_nf zm_323.1.1.cls zm_323.1.1.name r) = true := by decide +kernel
set_option maxRecDepth 100000 in
theorem zd_323_1 : ∀ r ∈ zl_323_1, decode zm_323.1.2.1 r.1 = .ok (r.2.1, r.2.2.1) := by decide +kernel
set_option maxRecDepth 100000 in
theorem zq_323_1 : (zl_323_1.flatMap (zz_wr zt_hh zp_P zt_cl zm_323.1.1.cls)).map some = ([2300, 160, 2298, 1839, 2296, 2295, 2273, 154, 2271, 2304, 161, 2302, 2300, 160, 2298] : List Nat).map (fun i => lw_tbl[i]?) := by rfl
set_option maxRecDepth 100000 in
theorem zg_323_1 : (zl_323_1.flatMap (zz_wr zt_hh zp_P zt_cl zm_323.1.1.cls)).all goodWord = true := by decide +kernel
set_option maxRecDepth 100000 in
theorem zr_323_1 : (zl_323_1.flatMap (zz_wn zp_P zm_323.1.1.cls)).map some = ([] : List Nat).map (fun i => lw_tbl[i]?) := by rfl
set_option maxRecDepth 100000 in
theorem zs_323_1 : (zl_323_1.flatMap (zz_wn zp_P zm_323.1.1.cls)).all zz_isN = true := by decide +kernel
set_option maxRecDepth 100000 in
theorem zb_323_1 : zl_323_1.all (fun r => zz_wb zt_hh zp_P zt_cl zt_tf zt_fd zt_nf zm_323.1.1.cls zm_323.1.1.name r) = true := by decide +kernel
set_option maxRecDepth 100000 in
theorem zd_323_2 : ∀ r ∈ zl_323_2, decode zm_323.1.2.1 r.1 = .ok (r.2.1, r.2.2.1) := by decide +kernel
set_option maxRecDepth 100000 in
theorem zq_323_2 : (zl_323_2.flatMap (zz_wr zt_hh zp_P zt_cl zm_323.1.1.cls)).map some = ([2316, 164, 2314, 1843, 2300, 160, 2298, 1839, 2296, 2295, 2273, 154, 2271, 2340, 170, 2338, 2304, 161, 2302] : List Nat).map (fun i => lw_tbl[i]?) := by rfl
set_option maxRecDepth 100000 in
theorem zg_323_2 : (zl_323_2.flatMap (zz_wr zt_hh zp_P zt_cl zm_323.1.1.cls)).all goodWord = true := by decide +kernel
set_option maxRecDepth 100000 in
theorem zr_323_2 : (zl_323_2.flatMap (zz_wn zp_P zm_323.1.1.cls)).map some = ([] : List Nat).map (fun i => lw_tbl[i]?) := by rfl
set_option maxRecDepth 100000 in
theorem zs_323_2 : (zl_323_2.flatMap (zz_wn zp_P zm_323.1.1.cls)).all zz_isN = true := by decide +kernel
set_option maxRecDepth 100000 in
theorem zb_323_2 : zl_323_2.all (fun r => zz_wb zt_hh zp_P zt_cl zt_tf zt_fd zt_nf zm_323.1.1.cls zm_323.1.1.name r) = true := by decide +kernel
set_option maxRecDepth 100000 in
theorem zy_323_0 : zl_323_0.all (fun r => zz_tb zt_hh zp_P zm_323 r) = true := by decide +kernel
set_option maxRecDepth 100000 in
theorem zy_323_1 : zl_323_1.all (fun r => zz_tb zt_hh zp_P zm_323 r) = true := by decide +kernel
set_option maxRecDepth 100000 in
theorem zy_323_2 : zl_323_2.all (fun r => zz_tb zt_hh zp_P zm_323 r) = true := by decide +kernel
theorem zw_323 : zz_okW zt_hh zp_P zt_cl zt_tf zt_fd zt_nf zt_T zt_N zm_323 := List.forall_mem_cons.mpr ⟨(zz_w_okL zd_323_0 zb_323_0 (zz_places goodWord zq_323_0 zg_323_0) (zz_places zz_isN zr_323_0 zs_323_0) zy_323_0), List.forall_mem_cons.mpr ⟨(zz_w_okL zd_323_1 zb_323_1 (zz_places goodWord zq_323_1 zg_323_1) (zz_places zz_isN zr_323_1 zs_323_1) zy_323_1), List.forall_mem_cons.mpr ⟨(zz_w_okL zd_323_2 zb_323_2 (zz_places goodWord zq_323_2 zg_323_2) (zz_places zz_isN zr_323_2 zs_323_2) zy_323_2), (fun _ h => absurd h List.not_mem_nil)⟩⟩⟩
set_option maxRecDepth 100000 in
theorem zq_323 : [zz_cw zt_hh zm_323, Cond.initialized zm_323.1.1.cls].map some = ([2290, 227] : List Nat).map (fun i => lw_tbl[i]?) := by rfl
set_option maxRecDepth 100000 in
theorem zg_323 : [zz_cw zt_hh zm_323, Cond.initialized zm_323.1.1.cls].all goodWord = true := by decide +kernel
set_option maxRecDepth 100000 in
theorem zb_323 : (plainName zm_323.1.1.cls && (decide (zm_323.1.1.cls ≠ "java/lang/invoke/MethodHandle" ∧ zm_323.1.1.cls ≠ "java/lang/invoke/VarHandle") && decide (zm_323.1.2.2.1 ≤ 40))) = true := by decide +kernel
theorem zo_323 : zz_okM zt_hh zp_P zt_cl zt_tf zt_fd zt_nf zt_T zt_N zm_323 := zz_w_okM zw_323 zb_323 (zz_places goodWord zq_323 zg_323)
set_option maxRecDepth 100000 in
theorem zd_324_0 : ∀ r ∈ zl_324_0, decode zm_324.1.2.1 r.1 = .ok (r.2.1, r.2.2.1) := by decide +kernel
set_option maxRecDepth 100000 in
theorem zq_324_0 : (zl_324_0.flatMap (zz_wr zt_hh zp_P zt_cl zm_324.1.1.cls)).map some = ([1843, 1841, 2293, 159, 2291, 2304, 161, 2302] : List Nat).map (fun i => lw_tbl[i]?) := by rfl
set_option maxRecDepth 100000 in
theorem zg_324_0 : (zl_324_0.flatMap (zz_wr zt_hh zp_P zt_cl zm_324.1.1.cls)).all goodWord = true := by decide +kernel
set_option maxRecDepth 100000 in
theorem zr_324_0 : (zl_324_0.flatMap (zz_wn zp_P zm_324.1.1.cls)).map some = ([] : List Nat).map (fun i => lw_tbl[i]?) := by rfl
set_option maxRecDepth 100000 in
theorem zs_324_0 : (zl_324_0.flatMap (zz_wn zp_P zm_324.1.1.cls)).all zz_isN = true := by decide +kernel
set_option maxRecDepth 100000 in
theorem zb_324_0 : zl_324_0.all (fun r => zz_wb zt_hh zp_P zt_cl zt_tf zt_fd zt_nf zm_324.1.1.cls zm_324.1.1.name r) = true := by decide +kernel
set_option maxRecDepth 100000 in
theorem zd_324_1 : ∀ r ∈ zl_324_1, decode zm_324.1.2.1 r.1 = .ok (r.2.1, r.2.2.1) := by decide +kernel
set_option maxRecDepth 100000 in
theorem zq_324_1 : (zl_324_1.flatMap (zz_wr zt_hh zp_P zt_cl zm_324.1.1.cls)).map some = ([2304, 161, 2302, 1862, 2261, 151, 2259] : List Nat).map (fun i => lw_tbl[i]?) := by rfl
set_option maxRecDepth 100000 in
theorem zg_324_1 : (zl_324_1.flatMap (zz_wr zt_hh zp_P zt_cl zm_324.1.1.cls)).all goodWord = true := by decide +kernel
set_option maxRecDepth 100000 in
theorem zr_324_1 : (zl_324_1.flatMap (zz_wn zp_P zm_324.1.1.cls)).map some = ([] : List Nat).map (fun i => lw_tbl[i]?) := by rfl
set_option maxRecDepth 100000 in
theorem zs_324_1 : (zl_324_1.flatMap (zz_wn zp_P zm_324.1.1.cls)).all zz_isN = true := by decide +kernel
set_option maxRecDepth 100000 in
theorem zb_324_1 : zl_324_1.all (fun r => zz_wb zt_hh zp_P zt_cl zt_tf zt_fd zt_nf zm_324.1.1.cls zm_324.1.1.name r) = true := by decide +kernel
set_option maxRecDepth 100000 in
theorem zy_324_0 : zl_324_0.all (fun r => zz_tb zt_hh zp_P zm_324 r) = true := by decide +kernel
set_option maxRecDepth 100000 in
theorem zy_324_1 : zl_324_1.all (fun r => zz_tb zt_hh zp_P zm_324 r) = true := by decide +kernel
theorem zw_324 : zz_okW zt_hh zp_P zt_cl zt_tf zt_fd zt_nf zt_T zt_N zm_324 := List.forall_mem_cons.mpr ⟨(zz_w_okL zd_324_0 zb_324_0 (zz_places goodWord zq_324_0 zg_324_0) (zz_places zz_isN zr_324_0 zs_324_0) zy_324_0), List.forall_mem_cons.mpr ⟨(zz_w_okL zd_324_1 zb_324_1 (zz_places goodWord zq_324_1 zg_324_1) (zz_places zz_isN zr_324_1 zs_324_1) zy_324_1), (fun _ h => absurd h List.not_mem_nil)⟩⟩
set_option maxRecDepth 100000 in
theorem zq_324 : [zz_cw zt_hh zm_324, Cond.initialized zm_324.1.1.cls].map some = ([2356, 227] : List Nat).map (fun i => lw_tbl[i]?) := by rfl
set_option maxRecDepth 100000 in
theorem zg_324 : [zz_cw zt_hh zm_324, Cond.initialized zm_324.1.1.cls].all goodWord = true := by decide +kernel
set_option maxRecDepth 100000 in
theorem zb_324 : (plainName zm_324.1.1.cls && (decide (zm_324.1.1.cls ≠ "java/lang/invoke/MethodHandle" ∧ zm_324.1.1.cls ≠ "java/lang/invoke/VarHandle") && decide (zm_324.1.2.2.1 ≤ 40))) = true := by decide +kernel
theorem zo_324 : zz_okM zt_hh zp_P zt_cl zt_tf zt_fd zt_nf zt_T zt_N zm_324 := zz_w_okM zw_324 zb_324 (zz_places goodWord zq_324 zg_324)
set_option maxRecDepth 100000 in
theorem zd_325_0 : ∀ r ∈ zl_325_0, decode zm_325.1.2.1 r.1 = .ok (r.2.1, r.2.2.1) := by decide +kernel
set_option maxRecDepth 100000 in
theorem zq_325_0 : (zl_325_0.flatMap (zz_wr zt_hh zp_P zt_cl zm_325.1.1.cls)).map some = ([1843, 2293, 159, 2291, 1843, 2293, 159, 2291, 1843, 1843, 1843, 1842, 1842] : List Nat).map (fun i => lw_tbl[i]?) := by rfl
set_option maxRecDepth 100000 in
theorem zg_325_0 : (zl_325_0.flatMap (zz_wr zt_hh zp_P zt_cl zm_325.1.1.cls)).all goodWord = true := by decide +kernel
set_option maxRecDepth 100000 in
theorem zr_325_0 : (zl_325_0.flatMap (zz_wn zp_P zm_325.1.1.cls)).map some = ([] : List Nat).map (fun i => lw_tbl[i]?) := by rfl
set_option maxRecDepth 100000 in
theorem zs_325_0 : (zl_325_0.flatMap (zz_wn zp_P zm_325.1.1.cls)).all zz_isN = true := by decide +kernel
set_option maxRecDepth 100000 in
theorem zb_325_0 : zl_325_0.all (fun r => zz_wb zt_hh zp_P zt_cl zt_tf zt_fd zt_nf zm_325.1.1.cls zm_325.1.1.name r) = true := by decide +kernel
set_option maxRecDepth 100000 in
theorem zd_325_1 : ∀ r ∈ zl_325_1, decode zm_325.1.2.1 r.1 = .ok (r.2.1, r.2.2.1) := by decide +kernel
set_option maxRecDepth 100000 in
theorem zq_325_1 : (zl_325_1.flatMap (zz_wr zt_hh zp_P zt_cl zm_325.1.1.cls)).map some = ([1862, 2261, 151, 2259, 2300, 160, 2298, 1839, 2300, 160, 2298] : List Nat).map (fun i => lw_tbl[i]?) := by rfl
set_option maxRecDepth 100000 in
theorem zg_325_1 : (zl_325_1.flatMap (zz_wr zt_hh zp_P zt_cl zm_325.1.1.cls)).all goodWord = true := by decide +kernel
set_option maxRecDepth 100000 in
theorem zr_325_1 : (zl_325_1.flatMap (zz_wn zp_P zm_325.1.1.cls)).map some = ([] : List Nat).map (fun i => lw_tbl[i]?) := by rfl
set_option maxRecDepth 100000 in
theorem zs_325_1 : (zl_325_1.flatMap (zz_wn zp_P zm_325.1.1.cls)).all zz_isN = true := by decide +kernel
set_option maxRecDepth 100000 in
theorem zb_325_1 : zl_325_1.all (fun r => zz_wb zt_hh zp_P zt_cl zt_tf zt_fd zt_nf zm_325.1.1.cls zm_325.1.1.name r) = true := by decide +kernel
set_option maxRecDepth 100000 in
theorem zd_325_2 : ∀ r ∈ zl_325_2, decode zm_325.1.2.1 r.1 = .ok (r.2.1, r.2.2.1) := by decide +kernel
set_option maxRecDepth 100000 in
theorem zq_325_2 : (zl_325_2.flatMap (zz_wr zt_hh zp_P zt_cl zm_325.1.1.cls)).map some = ([1862, 2261, 151, 2259, 2363, 175, 2361, 1841, 1843, 1842, 2332, 168, 2330, 1839] : List Nat).map (fun i => lw_tbl[i]?) := by rfl
set_option maxRecDepth 100000 in
theorem zg_325_2 : (zl_325_2.flatMap (zz_wr zt_hh zp_P zt_cl zm_325.1.1.cls)).all goodWord = true := by decide +kernel
set_option maxRecDepth 100000 in
theorem zr_325_2 : (zl_325_2.flatMap (zz_wn zp_P zm_325.1.1.cls)).map some = ([] : List Nat).map (fun i => lw_tbl[i]?) := by rfl
set_option maxRecDepth 100000 in
theorem zs_325_2 : (zl_325_2.flatMap (zz_wn zp_P zm_325.1.1.cls)).all zz_isN = true := by decide +kernel
set_option maxRecDepth 100000 in
theorem zb_325_2 : zl_325_2.all (fun r => zz_wb zt_hh zp_P zt_cl zt_tf zt_fd zt_nf zm_325.1.1.cls zm_325.1.1.name r) = true := by decide +kernel
set_option maxRecDepth 100000 in
theorem zd_325_3 : ∀ r ∈ zl_325_3, decode zm_325.1.2.1 r.1 = .ok (r.2.1, r.2.2.1) := by decide +kernel
set_option maxRecDepth 100000 in
theorem zq_325_3 : (zl_325_3.flatMap (zz_wr zt_hh zp_P zt_cl zm_325.1.1.cls)).map some = ([2363, 175, 2361, 2304, 161, 2302] : List Nat).map (fun i => lw_tbl[i]?) := by rfl
set_option maxRecDepth 100000 in
theorem zg_325_3 : (zl_325_3.flatMap (zz_wr zt_hh zp_P zt_cl zm_325.1.1.cls)).all goodWord = true := by decide +kernel
set_option maxRecDepth 100000 in
theorem zr_325_3 : (zl_325_3.flatMap (zz_wn zp_P zm_325.1.1.cls)).map some = ([] : List Nat).map (fun i => lw_tbl[i]?) := by rfl
set_option maxRecDepth 100000 in
theorem zs_325_3 : (zl_325_3.flatMap (zz_wn zp_P zm_325.1.1.cls)).all zz_isN = true := by decide +kernel
set_option maxRecDepth 100000 in
theorem zb_325_3 : zl_325_3.all (fun r => zz_wb zt_hh zp_P zt_cl zt_tf zt_fd zt_nf zm_325.1.1.cls zm_325.1.1.name r) = true := by decide +kernel
set_option maxRecDepth 100000 in
theorem zy_325_0 : zl_325_0.all (fun r => zz_tb zt_hh zp_P zm_325 r) = true := by decide +kernel
set_option maxRecDepth 100000 in
theorem zy_325_1 : zl_325_1.all (fun r => zz_tb zt_hh zp_P zm_325 r) = true := by decide +kernel
set_option maxRecDepth 100000 in
theorem zy_325_2 : zl_325_2.all (fun r => zz_tb zt_hh zp_P zm_325 r) = true := by decide +kernel
set_option maxRecDepth 100000 in
theorem zy_325_3 : zl_325_3.all (fun r => zz_tb zt_hh zp_P zm_325 r) = true := by decide +kernel
theorem zw_325 : zz_okW zt_hh zp_P zt_cl zt_tf zt_fd zt_nf zt_T zt_N zm_325 := List.forall_mem_cons.mpr ⟨(zz_w_okL zd_325_0 zb_325_0 (zz_places goodWord zq_325_0 zg_325_0) (zz_places zz_isN zr_325_0 zs_325_0) zy_325_0), List.forall_mem_cons.mpr ⟨(zz_w_okL zd_325_1 zb_325_1 (zz_places goodWord zq_325_1 zg_325_1) (zz_places zz_isN zr_325_1 zs_325_1) zy_325_1), List.forall_mem_cons.mpr ⟨(zz_w_okL zd_325_2 zb_325_2 (zz_places goodWord zq_325_2 zg_325_2) (zz_places zz_isN zr_325_2 zs_325_2) zy_325_2), List.forall_mem_cons.mpr ⟨(zz_w_okL zd_325_3 zb_325_3 (zz_places goodWord zq_325_3 zg_325_3) (zz_places zz_isN zr_325_3 zs_325_3) zy_325_3), (fun _ h => absurd h List.not_mem_nil)⟩⟩⟩⟩
set_option maxRecDepth 100000 in
theorem zq_325 : [zz_cw zt_hh zm_325, Cond.initialized zm_325.1.1.cls].map some = ([2360, 227] : List Nat).map (fun i => lw_tbl[i]?) := by rfl
set_option maxRecDepth 100000 in
theorem zg_325 : [zz_cw zt_hh zm_325, Cond.initialized zm_325.1.1.cls].all goodWord = true := by decide +kernel
set_option maxRecDepth 100000 in
theorem zb_325 : (plainName zm_325.1.1.cls && (decide (zm_325.1.1.cls ≠ "java/lang/invoke/MethodHandle" ∧ zm_325.1.1.cls ≠ "java/lang/invoke/VarHandle") && decide (zm_325.1.2.2.1 ≤ 40))) = true := by decide +kernel
theorem zo_325 : zz_okM zt_hh zp_P zt_cl zt_tf zt_fd zt_nf zt_T zt_N zm_325 := zz_w_okM zw_325 zb_325 (zz_places goodWord zq_325 zg_325)
set_option maxRecDepth 100000 in
theorem zd_326_0 : ∀ r ∈ zl_326_0, decode zm_326.1.2.1 r.1 = .ok (r.2.1, r.2.2.1) := by decide +kernel
set_option maxRecDepth 100000 in
theorem zq_326_0 : (zl_326_0.flatMap (zz_wr zt_hh zp_P zt_cl zm_326.1.1.cls)).map some = ([] : List Nat).map (fun i => lw_tbl[i]?) := by rfl
set_option maxRecDepth 100000 in
theorem zg_326_0 : (zl_326_0.flatMap (zz_wr zt_hh zp_P zt_cl zm_326.1.1.cls)).all goodWord = true := by decide +kernel
set_option maxRecDepth 100000 in
theorem zr_326_0 : (zl_326_0.flatMap (zz_wn zp_P zm_326.1.1.cls)).map some = ([] : List Nat).map (fun i => lw_tbl[i]?) := by rfl
set_option maxRecDepth 100000 in
theorem zs_326_0 : (zl_326_0.flatMap (zz_wn zp_P zm_326.1.1.cls)).all zz_isN = true := by decide +kernel
set_option maxRecDepth 100000 in
theorem zb_326_0 : zl_326_0.all (fun r => zz_wb zt_hh zp_P zt_cl zt_tf zt_fd zt_nf zm_326.1.1.cls zm_326.1.1.name r) = true := by decide +kernel
set_option maxRecDepth 100000 in
theorem zy_326_0 : zl_326_0.all (fun r => zz_tb zt_hh zp_P zm_326 r) = true := by decide +kernel
theorem zw_326 : zz_okW zt_hh zp_P zt_cl zt_tf zt_fd zt_nf zt_T zt_N zm_326 := List.forall_mem_cons.mpr ⟨(zz_w_okL zd_326_0 zb_326_0 (zz_places goodWord zq_326_0 zg_326_0) (zz_places zz_isN zr_326_0 zs_326_0) zy_326_0), (fun _ h => absurd h List.not_mem_nil)⟩
set_option maxRecDepth 100000 in
theorem zq_326 : [zz_cw zt_hh zm_326, Cond.initialized zm_326.1.1.cls].map some = ([2403, 227] : List Nat).map (fun i => lw_tbl[i]?) := by rfl
set_option maxRecDepth 100000 in
theorem zg_326 : [zz_cw zt_hh zm_326, Cond.initialized zm_326.1.1.cls].all goodWord = true := by decide +kernel
set_option maxRecDepth 100000 in
theorem zb_326 : (plainName zm_326.1.1.cls && (decide (zm_326.1.1.cls ≠ "java/lang/invoke/MethodHandle" ∧ zm_326.1.1.cls ≠ "java/lang/invoke/VarHandle") && decide (zm_326.1.2.2.1 ≤ 40))) = true := by decide +kernel
theorem zo_326 : zz_okM zt_hh zp_P zt_cl zt_tf zt_fd zt_nf zt_T zt_N zm_326 := zz_w_okM zw_326 zb_326 (zz_places goodWord zq_326 zg_326)
set_option maxRecDepth 100000 in
theorem zd_327_0 : ∀ r ∈ zl_327_0, decode zm_327.1.2.1 r.1 = .ok (r.2.1, r.2.2.1) := by decide +kernel
set_option maxRecDepth 100000 in
theorem zq_327_0 : (zl_327_0.flatMap (zz_wr zt_hh zp_P zt_cl zm_327.1.1.cls)).map some = ([] : List Nat).map (fun i => lw_tbl[i]?) := by rfl
set_option maxRecDepth 100000 in
theorem zg_327_0 : (zl_327_0.flatMap (zz_wr zt_hh zp_P zt_cl zm_327.1.1.cls)).all goodWord = true := by decide +kernel
set_option maxRecDepth 100000 in
theorem zr_327_0 : (zl_327_0.flatMap (zz_wn zp_P zm_327.1.1.cls)).map some = ([] : List Nat).map (fun i => lw_tbl[i]?) := by rfl
set_option maxRecDepth 100000 in
theorem zs_327_0 : (zl_327_0.flatMap (zz_wn zp_P zm_327.1.1.cls)).all zz_isN = true := by decide +kernel
set_option maxRecDepth 100000 in
theorem zb_327_0 : zl_327_0.all (fun r => zz_wb zt_hh zp_P zt_cl zt_tf zt_fd zt_nf zm_327.1.1.cls zm_327.1.1.name r) = true := by decide +kernel
set_option maxRecDepth 100000 in
theorem zd_327_1 : ∀ r ∈ zl_327_1, decode zm_327.1.2.1 r.1 = .ok (r.2.1, r.2.2.1) := by decide +kernel
set_option maxRecDepth 100000 in
theorem zq_327_1 : (zl_327_1.flatMap (zz_wr zt_hh zp_P zt_cl zm_327.1.1.cls)).map some = ([] : List Nat).map (fun i => lw_tbl[i]?) := by rfl
set_option maxRecDepth 100000 in
theorem zg_327_1 : (zl_327_1.flatMap (zz_wr zt_hh zp_P zt_cl zm_327.1.1.cls)).all goodWord = true := by decide +kernel
set_option maxRecDepth 100000 in
theorem zr_327_1 : (zl_327_1.flatMap (zz_wn zp_P zm_327.1.1.cls)).map some = ([] : List Nat).map (fun i => lw_tbl[i]?) := by rfl
set_option maxRecDepth 100000 in
theorem zs_327_1 : (zl_327_1.flatMap (zz_wn zp_P zm_327.1.1.cls)).all zz_isN = true := by decide +kernel
set_option maxRecDepth 100000 in
theorem zb_327_1 : zl_327_1.all (fun r => zz_wb zt_hh zp_P zt_cl zt_tf zt_fd zt_nf zm_327.1.1.cls zm_327.1.1.name r) = true := by decide +kernel
set_option maxRecDepth 100000 in
theorem zd_327_2 : ∀ r ∈ zl_327_2, decode zm_327.1.2.1 r.1 = .ok (r.2.1, r.2.2.1) := by decide +kernel
set_option maxRecDepth 100000 in
theorem zq_327_2 : (zl_327_2.flatMap (zz_wr zt_hh zp_P zt_cl zm_327.1.1.cls)).map some = ([] : List Nat).map (fun i => lw_tbl[i]?) := by rfl
set_option maxRecDepth 100000 in
theorem zg_327_2 : (zl_327_2.flatMap (zz_wr zt_hh zp_P zt_cl zm_327.1.1.cls)).all goodWord = true := by decide +kernel
set_option maxRecDepth 100000 in
theorem zr_327_2 : (zl_327_2.flatMap (zz_wn zp_P zm_327.1.1.cls)).map some = ([] : List Nat).map (fun i => lw_tbl[i]?) := by rfl
set_option maxRecDepth 100000 in
theorem zs_327_2 : (zl_327_2.flatMap (zz_wn zp_P zm_327.1.1.cls)).all zz_isN = true := by decide +kernel
set_option maxRecDepth 100000 in
theorem zb_327_2 : zl_327_2.all (fun r => zz_wb zt_hh zp_P zt_cl zt_tf zt_fd zt_nf zm_327.1.1.cls zm_327.1.1.name r) = true := by decide +kernel
set_option maxRecDepth 100000 in
theorem zd_327_3 : ∀ r ∈ zl_327_3, decode zm_327.1.2.1 r.1 = .ok (r.2.1, r.2.2.1) := by decide +kernel
set_option maxRecDepth 100000 in
theorem zq_327_3 : (zl_327_3.flatMap (zz_wr zt_hh zp_P zt_cl zm_327.1.1.cls)).map some = ([] : List Nat).map (fun i => lw_tbl[i]?) := by rfl
set_option maxRecDepth 100000 in
theorem zg_327_3 : (zl_327_3.flatMap (zz_wr zt_hh zp_P zt_cl zm_327.1.1.cls)).all goodWord = true := by decide +kernel
set_option maxRecDepth 100000 in
theorem zr_327_3 : (zl_327_3.flatMap (zz_wn zp_P zm_327.1.1.cls)).map some = ([] : List Nat).map (fun i => lw_tbl[i]?) := by rfl
set_option maxRecDepth 100000 in
theorem zs_327_3 : (zl_327_3.flatMap (zz_wn zp_P zm_327.1.1.cls)).all zz_isN = true := by decide +kernel
set_option maxRecDepth 100000 in
theorem zb_327_3 : zl_327_3.all (fun r => zz_wb zt_hh zp_P zt_cl zt_tf zt_fd zt_nf zm_327.1.1.cls zm_327.1.1.name r) = true := by decide +kernel
set_option maxRecDepth 100000 in
theorem zd_327_4 : ∀ r ∈ zl_327_4, decode zm_327.1.2.1 r.1 = .ok (r.2.1, r.2.2.1) := by decide +kernel
set_option maxRecDepth 100000 in
theorem zq_327_4 : (zl_327_4.flatMap (zz_wr zt_hh zp_P zt_cl zm_327.1.1.cls)).map some = ([] : List Nat).map (fun i => lw_tbl[i]?) := by rfl
set_option maxRecDepth 100000 in
theorem zg_327_4 : (zl_327_4.flatMap (zz_wr zt_hh zp_P zt_cl zm_327.1.1.cls)).all goodWord = true := by decide +kernel
set_option maxRecDepth 100000 in
theorem zr_327_4 : (zl_327_4.flatMap (zz_wn zp_P zm_327.1.1.cls)).map some = ([] : List Nat).map (fun i => lw_tbl[i]?) := by rfl
set_option maxRecDepth 100000 in
theorem zs_327_4 : (zl_327_4.flatMap (zz_wn zp_P zm_327.1.1.cls)).all zz_isN = true := by decide +kernel
set_option maxRecDepth 100000 in
theorem zb_327_4 : zl_327_4.all (fun r => zz_wb zt_hh zp_P zt_cl zt_tf zt_fd zt_nf zm_327.1.1.cls zm_327.1.1.name r) = true := by decide +kernel
set_option maxRecDepth 100000 in
theorem zy_327_0 : zl_327_0.all (fun r => zz_tb zt_hh zp_P zm_327 r) = true := by decide +kernel
set_option maxRecDepth 100000 in
theorem zy_327_1 : zl_327_1.all (fun r => zz_tb zt_hh zp_P zm_327 r) = true := by decide +kernel
set_option maxRecDepth 100000 in
theorem zy_327_2 : zl_327_2.all (fun r => zz_tb zt_hh zp_P zm_327 r) = true := by decide +kernel
set_option maxRecDepth 100000 in
theorem zy_327_3 : zl_327_3.all (fun r => zz_tb zt_hh zp_P zm_327 r) = true := by decide +kernel
set_option maxRecDepth 100000 in
theorem zy_327_4 : zl_327_4.all (fun r => zz_tb zt_hh zp_P zm_327 r) = true := by decide +kernel
theorem zw_327 : zz_okW zt_hh zp_P zt_cl zt_tf zt_fd zt_nf zt_T zt_N zm_327 := List.forall_mem_cons.mpr ⟨(zz_w_okL zd_327_0 zb_327_0 (zz_places goodWord zq_327_0 zg_327_0) (zz_places zz_isN zr_327_0 zs_327_0) zy_327_0), List.forall_mem_cons.mpr ⟨(zz_w_okL zd_327_1 zb_327_1 (zz_places goodWord zq_327_1 zg_327_1) (zz_places zz_isN zr_327_1 zs_327_1) zy_327_1), List.forall_mem_cons.mpr ⟨(zz_w_okL zd_327_2 zb_327_2 (zz_places goodWord zq_327_2 zg_327_2) (zz_places zz_isN zr_327_2 zs_327_2) zy_327_2), List.forall_mem_cons.mpr ⟨(zz_w_okL zd_327_3 zb_327_3 (zz_places goodWord zq_327_3 zg_327_3) (zz_places zz_isN zr_327_3 zs_327_3) zy_327_3), List.forall_mem_cons.mpr ⟨(zz_w_okL zd_327_4 zb_327_4 (zz_places goodWord zq_327_4 zg_327_4) (zz_places zz_isN zr_327_4 zs_327_4) zy_327_4), (fun _ h => absurd h List.not_mem_nil)⟩⟩⟩⟩⟩
set_option maxRecDepth 100000 in
theorem zq_327 : [zz_cw zt_hh zm_327, Cond.initialized zm_327.1.1.cls].map some = ([2371, 227] : List Nat).map (fun i => lw_tbl[i]?) := by rfl
set_option maxRecDepth 100000 in
theorem zg_327 : [zz_cw zt_hh zm_327, Cond.initialized zm_327.1.1.cls].all goodWord = true := by decide +kernel
set_option maxRecDepth 100000 in
theorem zb_327 : (plainName zm_327.1.1.cls && (decide (zm_327.1.1.cls ≠ "java/lang/invoke/MethodHandle" ∧ zm_327.1.1.cls ≠ "java/lang/invoke/VarHandle") && decide (zm_327.1.2.2.1 ≤ 40))) = true := by decide +kernel
theorem zo_327 : zz_okM zt_hh zp_P zt_cl zt_tf zt_fd zt_nf zt_T zt_N zm_327 := zz_w_okM zw_327 zb_327 (zz_places goodWord zq_327 zg_327)
set_option maxRecDepth 100000 in
theorem zd_328_0 : ∀ r ∈ zl_328_0, decode zm_328.1.2.1 r.1 = .ok (r.2.1, r.2.2.1) := by decide +kernel
set_option maxRecDepth 100000 in
theorem zq_328_0 : (zl_328_0.flatMap (zz_wr zt_hh zp_P zt_cl zm_328.1.1.cls)).map some = ([1843, 2293, 159, 2291, 2293, 159, 2291, 2370, 2369, 1862, 2261, 151, 2259, 1842] : List Nat).map (fun i => lw_tbl[i]?) := by rfl
set_option maxRecDepth 100000 in
theorem zg_328_0 : (zl_328_0.flatMap (zz_wr zt_hh zp_P zt_cl zm_328.1.1.cls)).all goodWord = true := by decide +kernel
set_option maxRecDepth 100000 in
theorem zr_328_0 : (zl_328_0.flatMap (zz_wn zp_P zm_328.1.1.cls)).map some = ([] : List Nat).map (fun i => lw_tbl[i]?) := by rfl
set_option maxRecDepth 100000 in
theorem zs_328_0 : (zl_328_0.flatMap (zz_wn zp_P zm_328.1.1.cls)).all zz_isN = true := by decide +kernel
set_option maxRecDepth 100000 in
theorem zb_328_0 : zl_328_0.all (fun r => zz_wb zt_hh zp_P zt_cl zt_tf zt_fd zt_nf zm_328.1.1.cls zm_328.1.1.name r) = true := by decide +kernel
set_option maxRecDepth 100000 in
theorem zd_328_1 : ∀ r ∈ zl_328_1, decode zm_328.1.2.1 r.1 = .ok (r.2.1, r.2.2.1) := by decide +kernel
set_option maxRecDepth 100000 in
theorem zq_328_1 : (zl_328_1.flatMap (zz_wr zt_hh zp_P zt_cl zm_328.1.1.cls)).map some = ([1842, 2304, 161, 2302, 2374, 177, 2372, 2383, 179, 2381] : List Nat).map (fun i => lw_tbl[i]?) := by rfl
set_option maxRecDepth 100000 in
theorem zg_328_1 : (zl_328_1.flatMap (zz_wr zt_hh zp_P zt_cl zm_328.1.1.cls)).all goodWord = true := by decide +kernel
set_option maxRecDepth 100000 in
theorem zr_328_1 : (zl_328_1.flatMap (zz_wn zp_P zm_328.1.1.cls)).map some = ([] : List Nat).map (fun i => lw_tbl[i]?) := by rfl
set_option maxRecDepth 100000 in
theorem zs_328_1 : (zl_328_1.flatMap (zz_wn zp_P zm_328.1.1.cls)).all zz_isN = true := by decide +kernel
set_option maxRecDepth 100000 in
theorem zb_328_1 : zl_328_1.all (fun r => zz_wb zt_hh zp_P zt_cl zt_tf zt_fd zt_nf zm_328.1.1.cls zm_328.1.1.name r) = true := by decide +kernel
set_option maxRecDepth 100000 in
theorem zd_328_2 : ∀ r ∈ zl_328_2, decode zm_328.1.2.1 r.1 = .ok (r.2.1, r.2.2.1) := by decide +kernel
set_option maxRecDepth 100000 in
theorem zq_328_2 : (zl_328_2.flatMap (zz_wr zt_hh zp_P zt_cl zm_328.1.1.cls)).map some = ([2399, 183, 2397, 2406, 184, 2404] : List Nat).map (fun i => lw_tbl[i]?) := by rfl
set_option maxRecDepth 100000 in
theorem zg_328_2 : (zl_328_2.flatMap (zz_wr zt_hh zp_P zt_cl zm_328.1.1.cls)).all goodWord = true := by decide +kernel
set_option maxRecDepth 100000 in
theorem zr_328_2 : (zl_328_2.flatMap (zz_wn zp_P zm_328.1.1.cls)).map some = ([] : List Nat).map (fun i => lw_tbl[i]?) := by rfl
set_option maxRecDepth 100000 in
theorem zs_328_2 : (zl_328_2.flatMap (zz_wn zp_P zm_328.1.1.cls)).all zz_isN = true := by decide +kernel
set_option maxRecDepth 100000 in
theorem zb_328_2 : zl_328_2.all (fun r => zz_wb zt_hh zp_P zt_cl zt_tf zt_fd zt_nf zm_328.1.1.cls zm_328.1.1.name r) = true := by decide +kernel
set_option maxRecDepth 100000 in
theorem zy_328_0 : zl_328_0.all (fun r => zz_tb zt_hh zp_P zm_328 r) = true := by decide +kernel
set_option maxRecDepth 100000 in
theorem zy_328_1 : zl_328_1.all (fun r => zz_tb zt_hh zp_P zm_328 r) = true := by decide +kernel
set_option maxRecDepth 100000 in
theorem zy_328_2 : zl_328_2.all (fun r => zz_tb zt_hh zp_P zm_328 r) = true := by decide +kernel
theorem zw_328 : zz_okW zt_hh zp_P zt_cl zt_tf zt_fd zt_nf zt_T zt_N zm_328 := List.forall_mem_cons.mpr ⟨(zz_w_okL zd_328_0 zb_328_0 (zz_places goodWord zq_328_0 zg_328_0) (zz_places zz_isN zr_328_0 zs_328_0) zy_328_0), List.forall_mem_cons.mpr ⟨(zz_w_okL zd_328_1 zb_328_1 (zz_places goodWord zq_328_1 zg_328_1) (zz_places zz_isN zr_328_1 zs_328_1) zy_328_1), List.forall_mem_cons.mpr ⟨(zz_w_okL zd_328_2 zb_328_2 (zz_places goodWord zq_328_2 zg_328_2) (zz_places zz_isN zr_328_2 zs_328_2) zy_328_2), (fun _ h => absurd h List.not_mem_nil)⟩⟩⟩
set_option maxRecDepth 100000 in
theorem zq_328 : [zz_cw zt_hh zm_328, Cond.initialized zm_328.1.1.cls].map some = ([2368, 227] : List Nat).map (fun i => lw_tbl[i]?) := by rfl
set_option maxRecDepth 100000 in
theorem zg_328 : [zz_cw zt_hh zm_328, Cond.initialized zm_328.1.1.cls].all goodWord = true := by decide +kernel
set_option maxRecDepth 100000 in
theorem zb_328 : (plainName zm_328.1.1.cls && (decide (zm_328.1.1.cls ≠ "java/lang/invoke/MethodHandle" ∧ zm_328.1.1.cls ≠ "java/lang/invoke/VarHandle") && decide (zm_328.1.2.2.1 ≤ 40))) = true := by decide +kernel
theorem zo_328 : zz_okM zt_hh zp_P zt_cl zt_tf zt_fd zt_nf zt_T zt_N zm_328 := zz_w_okM zw_328 zb_328 (zz_places goodWord zq_328 zg_328)
set_option maxRecDepth 100000 in
theorem zd_329_0 : ∀ r ∈ zl_329_0, decode zm_329.1.2.1 r.1 = .ok (r.2.1, r.2.2.1) := by decide +kernel
set_option maxRecDepth 100000 in
theorem zq_329_0 : (zl_329_0.flatMap (zz_wr zt_hh zp_P zt_cl zm_329.1.1.cls)).map some = ([2273, 154, 2271] : List Nat).map (fun i => lw_tbl[i]?) := by rfl
set_option maxRecDepth 100000 in
theorem zg_329_0 : (zl_329_0.flatMap (zz_wr zt_hh zp_P zt_cl zm_329.1.1.cls)).all goodWord = true := by decide +kernel
set_option maxRecDepth 100000 in
theorem zr_329_0 : (zl_329_0.flatMap (zz_wn zp_P zm_329.1.1.cls)).map some = ([] : List Nat).map (fun i => lw_tbl[i]?) := by rfl
set_option maxRecDepth 100000 in
theorem zs_329_0 : (zl_329_0.flatMap (zz_wn zp_P zm_329.1.1.cls)).all zz_isN = true := by decide +kernel
set_option maxRecDepth 100000 in
theorem zb_329_0 : zl_329_0.all (fun r => zz_wb zt_hh zp_P zt_cl zt_tf zt_fd zt_nf zm_329.1.1.cls zm_329.1.1.name r) = true := by decide +kernel
set_option maxRecDepth 100000 in
theorem zy_329_0 : zl_329_0.all (fun r => zz_tb zt_hh zp_P zm_329 r) = true := by decide +kernel
theorem zw_329 : zz_okW zt_hh zp_P zt_cl zt_tf zt_fd zt_nf zt_T zt_N zm_329 := List.forall_mem_cons.mpr ⟨(zz_w_okL zd_329_0 zb_329_0 (zz_places goodWord zq_329_0 zg_329_0) (zz_places zz_isN zr_329_0 zs_329_0) zy_329_0), (fun _ h => absurd h List.not_mem_nil)⟩
set_option maxRecDepth 100000 in
theorem zq_329 : [zz_cw zt_hh zm_329, Cond.initialized zm_329.1.1.cls].map some = ([2380, 227] : List Nat).map (fun i => lw_tbl[i]?) := by rfl
set_option maxRecDepth 100000 in
theorem zg_329 : [zz_cw zt_hh zm_329, Cond.initialized zm_329.1.1.cls].all goodWord = true := by decide +kernel
set_option maxRecDepth 100000 in
theorem zb_329 : (plainName zm_329.1.1.cls && (decide (zm_329.1.1.cls ≠ "java/lang/invoke/MethodHandle" ∧ zm_329.1.1.cls ≠ "java/lang/invoke/VarHandle") && decide (zm_329.1.2.2.1 ≤ 40))) = true := by decide +kernel
theorem zo_329 : zz_okM zt_hh zp_P zt_cl zt_tf zt_fd zt_nf zt_T zt_N zm_329 := zz_w_okM zw_329 zb_329 (zz_places goodWord zq_329 zg_329)
set_option maxRecDepth 100000 in
theorem zd_330_0 : ∀ r ∈ zl_330_0, decode zm_330.1.2.1 r.1 = .ok (r.2.1, r.2.2.1) := by decide +kernel
set_option maxRecDepth 100000 in
theorem zq_330_0 : (zl_330_0.flatMap (zz_wr zt_hh zp_P zt_cl zm_330.1.1.cls)).map some = ([2376] : List Nat).map (fun i => lw_tbl[i]?) := by rfl
set_option maxRecDepth 100000 in
theorem zg_330_0 : (zl_330_0.flatMap (zz_wr zt_hh zp_P zt_cl zm_330.1.1.cls)).all goodWord = true := by decide +kernel
set_option maxRecDepth 100000 in
theorem zr_330_0 : (zl_330_0.flatMap (zz_wn zp_P zm_330.1.1.cls)).map some = ([] : List Nat).map (fun i => lw_tbl[i]?) := by rfl
set_option maxRecDepth 100000 in
theorem zs_330_0 : (zl_330_0.flatMap (zz_wn zp_P zm_330.1.1.cls)).all zz_isN = true := by decide +kernel
set_option maxRecDepth 100000 in
theorem zb_330_0 : zl_330_0.all (fun r => zz_wb zt_hh zp_P zt_cl zt_tf zt_fd zt_nf zm_330.1.1.cls zm_330.1.1.name r) = true := by decide +kernel
set_option maxRecDepth 100000 in
theorem zd_330_1 : ∀ r ∈ zl_330_1, decode zm_330.1.2.1 r.1 = .ok (r.2.1, r.2.2.1) := by decide +kernel
set_option maxRecDepth 100000 in
theorem zq_330_1 : (zl_330_1.flatMap (zz_wr zt_hh zp_P zt_cl zm_330.1.1.cls)).map some = ([2300, 160, 2298, 2300, 160, 2298, 1839] : List Nat).map (fun i => lw_tbl[i]?) := by rfl
set_option maxRecDepth 100000 in
theorem zg_330_1 : (zl_330_1.flatMap (zz_wr zt_hh zp_P zt_cl zm_330.1.1.cls)).all goodWord = true := by decide +kernel
set_option maxRecDepth 100000 in
theorem zr_330_1 : (zl_330_1.flatMap (zz_wn zp_P zm_330.1.1.cls)).map some = ([] : List Nat).map (fun i => lw_tbl[i]?) := by rfl
set_option maxRecDepth 100000 in
theorem zs_330_1 : (zl_330_1.flatMap (zz_wn zp_P zm_330.1.1.cls)).all zz_isN = true := by decide +kernel
set_option maxRecDepth 100000 in
theorem zb_330_1 : zl_330_1.all (fun r => zz_wb zt_hh zp_P zt_cl zt_tf zt_fd zt_nf zm_330.1.1.cls zm_330.1.1.name r) = true := by decide +kernel
set_option maxRecDepth 100000 in
theorem zd_330_2 : ∀ r ∈ zl_330_2, decode zm_330.1.2.1 r.1 = .ok (r.2.1, r.2.2.1) := by decide +kernel
set_option maxRecDepth 100000 in
theorem zq_330_2 : (zl_330_2.flatMap (zz_wr zt_hh zp_P zt_cl zm_330.1.1.cls)).map some = ([] : List Nat).map (fun i => lw_tbl[i]?) := by rfl
set_option maxRecDepth 100000 in
theorem zg_330_2 : (zl_330_2.flatMap (zz_wr zt_hh zp_P zt_cl zm_330.1.1.cls)).all goodWord = true := by decide +kernel
set_option maxRecDepth 100000 in
theorem zr_330_2 : (zl_330_2.flatMap (zz_wn zp_P zm_330.1.1.cls)).map some = ([] : List Nat).map (fun i => lw_tbl[i]?) := by rfl
set_option maxRecDepth 100000 in
theorem zs_330_2 : (zl_330_2.flatMap (zz_wn zp_P zm_330.1.1.cls)).all zz_isN = true := by decide +kernel
set_option maxRecDepth 100000 in
theorem zb_330_2 : zl_330_2.all (fun r => zz_wb zt_hh zp_P zt_cl zt_tf zt_fd zt_nf zm_330.1.1.cls zm_330.1.1.name r) = true := by decide +kernel
set_option maxRecDepth 100000 in
theorem zd_330_3 : ∀ r ∈ zl_330_3, decode zm_330.1.2.1 r.1 = .ok (r.2.1, r.2.2.1) := by decide +kernel
set_option maxRecDepth 100000 in
theorem zq_330_3 : (zl_330_3.flatMap (zz_wr zt_hh zp_P zt_cl zm_330.1.1.cls)).map some = ([1862, 2261, 151, 2259, 1843, 2273, 154, 2271, 2304, 161, 2302] : List Nat).map (fun i => lw_tbl[i]?) := by rfl
set_option maxRecDepth 100000 in
theorem zg_330_3 : (zl_330_3.flatMap (zz_wr zt_hh zp_P zt_cl zm_330.1.1.cls)).all goodWord = true := by decide +kernel
set_option maxRecDepth 100000 in
theorem zr_330_3 : (zl_330_3.flatMap (zz_wn zp_P zm_330.1.1.cls)).map some = ([] : List Nat).map (fun i => lw_tbl[i]?) := by rfl
set_option maxRecDepth 100000 in
theorem zs_330_3 : (zl_330_3.flatMap (zz_wn zp_P zm_330.1.1.cls)).all zz_isN = true := by decide +kernel
set_option maxRecDepth 100000 in
theorem zb_330_3 : zl_330_3.all (fun r => zz_wb zt_hh zp_P zt_cl zt_tf zt_fd zt_nf zm_330.1.1.cls zm_330.1.1.name r) = true := by decide +kernel
set_option maxRecDepth 100000 in
theorem zd_330_4 : ∀ r ∈ zl_330_4, decode zm_330.1.2.1 r.1 = .ok (r.2.1, r.2.2.1) := by decide +kernel
set_option maxRecDepth 100000 in
theorem zq_330_4 : (zl_330_4.flatMap (zz_wr zt_hh zp_P zt_cl zm_330.1.1.cls)).map some = ([2300, 160, 2298, 1843, 1839, 2379, 178, 2377, 2340, 170, 2338] : List Nat).map (fun i => lw_tbl[i]?) := by rfl
set_option maxRecDepth 100000 in
theorem zg_330_4 : (zl_330_4.flatMap (zz_wr zt_hh zp_P zt_cl zm_330.1.1.cls)).all goodWord = true := by decide +kernel
set_option maxRecDepth 100000 in
theorem zr_330_4 : (zl_330_4.flatMap (zz_wn zp_P zm_330.1.1.cls)).map some = ([] : List Nat).map (fun i => lw_tbl[i]?) := by rfl
set_option maxRecDepth 100000 in
theorem zs_330_4 : (zl_330_4.flatMap (zz_wn zp_P zm_330.1.1.cls)).all zz_isN = true := by decide +kernel
set_option maxRecDepth 100000 in
theorem zb_330_4 : zl_330_4.all (fun r => zz_wb zt_hh zp_P zt_cl zt_tf zt_fd zt_nf zm_330.1.1.cls zm_330.1.1.name r) = true := by decide +kernel
set_option maxRecDepth 100000 in
theorem zd_330_5 : ∀ r ∈ zl_330_5, decode zm_330.1.2.1 r.1 = .ok (r.2.1, r.2.2.1) := by decide +kernel
set_option maxRecDepth 100000 in
theorem zq_330_5 : (zl_330_5.flatMap (zz_wr zt_hh zp_P zt_cl zm_330.1.1.cls)).map some = ([2304, 161, 2302] : List Nat).map (fun i => lw_tbl[i]?) := by rfl
set_option maxRecDepth 100000 in
theorem zg_330_5 : (zl_330_5.flatMap (zz_wr zt_hh zp_P zt_cl zm_330.1.1.cls)).all goodWord = true := by decide +kernel
set_option maxRecDepth 100000 in
theorem zr_330_5 : (zl_330_5.flatMap (zz_wn zp_P zm_330.1.1.cls)).map some = ([] : List Nat).map (fun i => lw_tbl[i]?) := by rfl
set_option maxRecDepth 100000 in
theorem zs_330_5 : (zl_330_5.flatMap (zz_wn zp_P zm_330.1.1.cls)).all zz_isN = true := by decide +kernel
set_option maxRecDepth 100000 in
theorem zb_330_5 : zl_330_5.all (fun r => zz_wb zt_hh zp_P zt_cl zt_tf zt_fd zt_nf zm_330.1.1.cls zm_330.1.1.name r) = true := by decide +kernel
set_option maxRecDepth 100000 in
theorem zy_330_0 : zl_330_0.all (fun r => zz_tb zt_hh zp_P zm_330 r) = true := by decide +kernel
set_option maxRecDepth 100000 in
theorem zy_330_1 : zl_330_1.all (fun r => zz_tb zt_hh zp_P zm_330 r) = true := by decide +kernel
set_option maxRecDepth 100000 in
theorem zy_330_2 : zl_330_2.all (fun r => zz_tb zt_hh zp_P zm_330 r) = true := by decide +kernel
set_option maxRecDepth 100000 in
theorem zy_330_3 : zl_330_3.all (fun r => zz_tb zt_hh zp_P zm_330 r) = true := by decide +kernel
set_option maxRecDepth 100000 in
theorem zy_330_4 : zl_330_4.all (fun r => zz_tb zt_hh zp_P zm_330 r) = true := by decide +kernel
set_option maxRecDepth 100000 in
theorem zy_330_5 : zl_330_5.all (fun r => zz_tb zt_hh zp_P zm_330 r) = true := by decide +kernel
theorem zw_330 : zz_okW zt_hh zp_P zt_cl zt_tf zt_fd zt_nf zt_T zt_N zm_330 := List.forall_mem_cons.mpr ⟨(zz_w_okL zd_330_0 zb_330_0 (zz_places goodWord zq_330_0 zg_330_0) (zz_places zz_isN zr_330_0 zs_330_0) zy_330_0), List.forall_mem_cons.mpr ⟨(zz_w_okL zd_330_1 zb_330_1 (zz_places goodWord zq_330_1 zg_330_1) (zz_places zz_isN zr_330_1 zs_330_1) zy_330_1), List.forall_mem_cons.mpr ⟨(zz_w_okL zd_330_2 zb_330_2 (zz_places goodWord zq_330_2 zg_330_2) (zz_places zz_isN zr_330_2 zs_330_2) zy_330_2), List.forall_mem_cons.mpr ⟨(zz_w_okL zd_330_3 zb_330_3 (zz_places goodWord zq_330_3 zg_330_3) (zz_places zz_isN zr_330_3 zs_330_3) zy_330_3), List.forall_mem_cons.mpr ⟨(zz_w_okL zd_330_4 zb_330_4 (zz_places goodWord zq_330_4 zg_330_4) (zz_places zz_isN zr_330_4 zs_330_4) zy_330_4), List.forall_mem_cons.mpr ⟨(zz_w_okL zd_330_5 zb_330_5 (zz_places goodWord zq_330_5 zg_330_5) (zz_places zz_isN zr_330_5 zs_330_5) zy_330_5), (fun _ h => absurd h List.not_mem_nil)⟩⟩⟩⟩⟩⟩
set_option maxRecDepth 100000 in
theorem zq_330 : [zz_cw zt_hh zm_330, Cond.initialized zm_330.1.1.cls].map some = ([2375, 227] : List Nat).map (fun i => lw_tbl[i]?) := by rfl
set_option maxRecDepth 100000 in
theorem zg_330 : [zz_cw zt_hh zm_330, Cond.initialized zm_330.1.1.cls].all goodWord = true := by decide +kernel
set_option maxRecDepth 100000 in
theorem zb_330 : (plainName zm_330.1.1.cls && (decide (zm_330.1.1.cls ≠ "java/lang/invoke/MethodHandle" ∧ zm_330.1.1.cls ≠ "java/lang/invoke/VarHandle") && decide (zm_330.1.2.2.1 ≤ 40))) = true := by decide +kernel
theorem zo_330 : zz_okM zt_hh zp_P zt_cl zt_tf zt_fd zt_nf zt_T zt_N zm_330 := zz_w_okM zw_330 zb_330 (zz_places goodWord zq_330 zg_330)
set_option maxRecDepth 100000 in
theorem zd_331_0 : ∀ r ∈ zl_331_0, decode zm_331.1.2.1 r.1 = .ok (r.2.1, r.2.2.1) := by decide +kernel
set_option maxRecDepth 100000 in
theorem zq_331_0 : (zl_331_0.flatMap (zz_wr zt_hh zp_P zt_cl zm_331.1.1.cls)).map some = ([1839, 2300, 160, 2298, 1839] : List Nat).map (fun i => lw_tbl[i]?) := by rfl
set_option maxRecDepth 100000 in
theorem zg_331_0 : (zl_331_0.flatMap (zz_wr zt_hh zp_P zt_cl zm_331.1.1.cls)).all goodWord = true := by decide +kernel
set_option maxRecDepth 100000 in
theorem zr_331_0 : (zl_331_0.flatMap (zz_wn zp_P zm_331.1.1.cls)).map some = ([] : List Nat).map (fun i => lw_tbl[i]?) := by rfl
set_option maxRecDepth 100000 in
theorem zs_331_0 : (zl_331_0.flatMap (zz_wn zp_P zm_331.1.1.cls)).all zz_isN = true := by decide +kernel
set_option maxRecDepth 100000 in
theorem zb_331_0 : zl_331_0.all (fun r => zz_wb zt_hh zp_P zt_cl zt_tf zt_fd zt_nf zm_331.1.1.cls zm_331.1.1.name r) = true := by decide +kernel
set_option maxRecDepth 100000 in
theorem zd_331_1 : ∀ r ∈ zl_331_1, decode zm_331.1.2.1 r.1 = .ok (r.2.1, r.2.2.1) := by decide +kernel
set_option maxRecDepth 100000 in
theorem zq_331_1 : (zl_331_1.flatMap (zz_wr zt_hh zp_P zt_cl zm_331.1.1.cls)).map some = ([] : List Nat).map (fun i => lw_tbl[i]?) := by rfl
set_option maxRecDepth 100000 in
theorem zg_331_1 : (zl_331_1.flatMap (zz_wr zt_hh zp_P zt_cl zm_331.1.1.cls)).all goodWord = true := by decide +kernel
set_option maxRecDepth 100000 in
theorem zr_331_1 : (zl_331_1.flatMap (zz_wn zp_P zm_331.1.1.cls)).map some = ([] : List Nat).map (fun i => lw_tbl[i]?) := by rfl
set_option maxRecDepth 100000 in
theorem zs_331_1 : (zl_331_1.flatMap (zz_wn zp_P zm_331.1.1.cls)).all zz_isN = true := by decide +kernel
set_option maxRecDepth 100000 in
theorem zb_331_1 : zl_331_1.all (fun r => zz_wb zt_hh zp_P zt_cl zt_tf zt_fd zt_nf zm_331.1.1.cls zm_331.1.1.name r) = true := by decide +kernel
set_option maxRecDepth 100000 in
theorem zy_331_0 : zl_331_0.all (fun r => zz_tb zt_hh zp_P zm_331 r) = true := by decide +kernel
set_option maxRecDepth 100000 in
theorem zy_331_1 : zl_331_1.all (fun r => zz_tb zt_hh zp_P zm_331 r) = true := by decide +kernel
theorem zw_331 : zz_okW zt_hh zp_P zt_cl zt_tf zt_fd zt_nf zt_T zt_N zm_331 := List.forall_mem_cons.mpr ⟨(zz_w_okL zd_331_0 zb_331_0 (zz_places goodWord zq_331_0 zg_331_0) (zz_places zz_isN zr_331_0 zs_331_0) zy_331_0), List.forall_mem_cons.mpr ⟨(zz_w_okL zd_331_1 zb_331_1 (zz_places goodWord zq_331_1 zg_331_1) (zz_places zz_isN zr_331_1 zs_331_1) zy_331_1), (fun _ h => absurd h List.not_mem_nil)⟩⟩
set_option maxRecDepth 100000 in
theorem zq_331 : [zz_cw zt_hh zm_331, Cond.initialized zm_331.1.1.cls].map some = ([2396, 227] : List Nat).map (fun i => lw_tbl[i]?) := by rfl
set_option maxRecDepth 100000 in
theorem zg_331 : [zz_cw zt_hh zm_331, Cond.initialized zm_331.1.1.cls].all goodWord = true := by decide +kernel
set_option maxRecDepth 100000 in
theorem zb_331 : (plainName zm_331.1.1.cls && (decide (zm_331.1.1.cls ≠ "java/lang/invoke/MethodHandle" ∧ zm_331.1.1.cls ≠ "java/lang/invoke/VarHandle") && decide (zm_331.1.2.2.1 ≤ 40))) = true := by decide +kernel
theorem zo_331 : zz_okM zt_hh zp_P zt_cl zt_tf zt_fd zt_nf zt_T zt_N zm_331 := zz_w_okM zw_331 zb_331 (zz_places goodWord zq_331 zg_331)
set_option maxRecDepth 100000 in
theorem zd_332_0 : ∀ r ∈ zl_332_0, decode zm_332.1.2.1 r.1 = .ok (r.2.1, r.2.2.1) := by decide +kernel
set_option maxRecDepth 100000 in
theorem zq_332_0 : (zl_332_0.flatMap (zz_wr zt_hh zp_P zt_cl zm_332.1.1.cls)).map some = ([1843, 2300, 160, 2298, 1839, 2273, 154, 2271] : List Nat).map (fun i => lw_tbl[i]?) := by rfl
set_option maxRecDepth 100000 in
theorem zg_332_0 : (zl_332_0.flatMap (zz_wr zt_hh zp_P zt_cl zm_332.1.1.cls)).all goodWord = true := by decide +kernel
set_option maxRecDepth 100000 in
theorem zr_332_0 : (zl_332_0.flatMap (zz_wn zp_P zm_332.1.1.cls)).map some = ([] : List Nat).map (fun i => lw_tbl[i]?) := by rfl
set_option maxRecDepth 100000 in
theorem zs_332_0 : (zl_332_0.flatMap (zz_wn zp_P zm_332.1.1.cls)).all zz_isN = true := by decide +kernel
set_option maxRecDepth 100000 in
theorem zb_332_0 : zl_332_0.all (fun r => zz_wb zt_hh zp_P zt_cl zt_tf zt_fd zt_nf zm_332.1.1.cls zm_332.1.1.name r) = true := by decide +kernel
set_option maxRecDepth 100000 in
theorem zd_332_1 : ∀ r ∈ zl_332_1, decode zm_332.1.2.1 r.1 = .ok (r.2.1, r.2.2.1) := by decide +kernel
set_option maxRecDepth 100000 in
theorem zq_332_1 : (zl_332_1.flatMap (zz_wr zt_hh zp_P zt_cl zm_332.1.1.cls)).map some = ([1843, 1842, 1839] : List Nat).map (fun i => lw_tbl[i]?) := by rfl
set_option maxRecDepth 100000 in
theorem zg_332_1 : (zl_332_1.flatMap (zz_wr zt_hh zp_P zt_cl zm_332.1.1.cls)).all goodWord = true := by decide +kernel
set_option maxRecDepth 100000 in
theorem zr_332_1 : (zl_332_1.flatMap (zz_wn zp_P zm_332.1.1.cls)).map some = ([] : List Nat).map (fun i => lw_tbl[i]?) := by rfl
set_option maxRecDepth 100000 in
theorem zs_332_1 : (zl_332_1.flatMap (zz_wn zp_P zm_332.1.1.cls)).all zz_isN = true := by decide +kernel
set_option maxRecDepth 100000 in
theorem zb_332_1 : zl_332_1.all (fun r => zz_wb zt_hh zp_P zt_cl zt_tf zt_fd zt_nf zm_332.1.1.cls zm_332.1.1.name r) = true := by decide +kernel
set_option maxRecDepth 100000 in
theorem zd_332_2 : ∀ r ∈ zl_332_2, decode zm_332.1.2.1 r.1 = .ok (r.2.1, r.2.2.1) := by decide +kernel
set_option maxRecDepth 100000 in
theorem zq_332_2 : (zl_332_2.flatMap (zz_wr zt_hh zp_P zt_cl zm_332.1.1.cls)).map some = ([1842, 1839, 1842, 1842, 1842, 1842] : List Nat).map (fun i => lw_tbl[i]?) := by rfl
set_option maxRecDepth 100000 in
theorem zg_332_2 : (zl_332_2.flatMap (zz_wr zt_hh zp_P zt_cl zm_332.1.1.cls)).all goodWord = true := by decide +kernel
set_option maxRecDepth 100000 in
theorem zr_332_2 : (zl_332_2.flatMap (zz_wn zp_P zm_332.1.1.cls)).map some = ([] : List Nat).map (fun i => lw_tbl[i]?) := by rfl
set_option maxRecDepth 100000 in
theorem zs_332_2 : (zl_332_2.flatMap (zz_wn zp_P zm_332.1.1.cls)).all zz_isN = true := by decide +kernel
set_option maxRecDepth 100000 in
theorem zb_332_2 : zl_332_2.all (fun r => zz_wb zt_hh zp_P zt_cl zt_tf zt_fd zt_nf zm_332.1.1.cls zm_332.1.1.name r) = true := by decide +kernel
set_option maxRecDepth 100000 in
theorem zd_332_3 : ∀ r ∈ zl_332_3, decode zm_332.1.2.1 r.1 = .ok (r.2.1, r.2.2.1) := by decide +kernel
set_option maxRecDepth 100000 in
theorem zq_332_3 : (zl_332_3.flatMap (zz_wr zt_hh zp_P zt_cl zm_332.1.1.cls)).map some = ([] : List Nat).map (fun i => lw_tbl[i]?) := by rfl
set_option maxRecDepth 100000 in
theorem zg_332_3 : (zl_332_3.flatMap (zz_wr zt_hh zp_P zt_cl zm_332.1.1.cls)).all goodWord = true := by decide +kernel
set_option maxRecDepth 100000 in
theorem zr_332_3 : (zl_332_3.flatMap (zz_wn zp_P zm_332.1.1.cls)).map some = ([] : List Nat).map (fun i => lw_tbl[i]?) := by rfl
set_option maxRecDepth 100000 in
theorem zs_332_3 : (zl_332_3.flatMap (zz_wn zp_P zm_332.1.1.cls)).all zz_isN = true := by decide +kernel
set_option maxRecDepth 100000 in
theorem zb_332_3 : zl_332_3.all (fun r => zz_wb zt_hh zp_P zt_cl zt_tf zt_fd zt_nf zm_332.1.1.cls zm_332.1.1.name r) = true := by decide +kernel
set_option maxRecDepth 100000 in
theorem zy_332_0 : zl_332_0.all (fun r => zz_tb zt_hh zp_P zm_332 r) = true := by decide +kernel
set_option maxRecDepth 100000 in
theorem zy_332_1 : zl_332_1.all (fun r => zz_tb zt_hh zp_P zm_332 r) = true := by decide +kernel
set_option maxRecDepth 100000 in
theorem zy_332_2 : zl_332_2.all (fun r => zz_tb zt_hh zp_P zm_332 r) = true := by decide +kernel
set_option maxRecDepth 100000 in
theorem zy_332_3 : zl_332_3.all (fun r => zz_tb zt_hh zp_P zm_332 r) = true := by decide +kernel
theorem zw_332 : zz_okW zt_hh zp_P zt_cl zt_tf zt_fd zt_nf zt_T zt_N zm_332 := List.forall_mem_cons.mpr ⟨(zz_w_okL zd_332_0 zb_332_0 (zz_places goodWord zq_332_0 zg_332_0) (zz_places zz_isN zr_332_0 zs_332_0) zy_332_0), List.forall_mem_cons.mpr ⟨(zz_w_okL zd_332_1 zb_332_1 (zz_places goodWord zq_332_1 zg_332_1) (zz_places zz_isN zr_332_1 zs_332_1) zy_332_1), List.forall_mem_cons.mpr ⟨(zz_w_okL zd_332_2 zb_332_2 (zz_places goodWord zq_332_2 zg_332_2) (zz_places zz_isN zr_332_2 zs_332_2) zy_332_2), List.forall_mem_cons.mpr ⟨(zz_w_okL zd_332_3 zb_332_3 (zz_places goodWord zq_332_3 zg_332_3) (zz_places zz_isN zr_332_3 zs_332_3) zy_332_3), (fun _ h => absurd h List.not_mem_nil)⟩⟩⟩⟩
set_option maxRecDepth 100000 in
theorem zq_332 : [zz_cw zt_hh zm_332, Cond.initialized zm_332.1.1.cls].map some = ([2392, 227] : List Nat).map (fun i => lw_tbl[i]?) := by rfl
set_option maxRecDepth 100000 in
theorem zg_332 : [zz_cw zt_hh zm_332, Cond.initialized zm_332.1.1.cls].all goodWord = true := by decide +kernel
set_option maxRecDepth 100000 in
theorem zb_332 : (plainName zm_332.1.1.cls && (decide (zm_332.1.1.cls ≠ "java/lang/invoke/MethodHandle" ∧ zm_332.1.1.cls ≠ "java/lang/invoke/VarHandle") && decide (zm_332.1.2.2.1 ≤ 40))) = true := by decide +kernel
theorem zo_332 : zz_okM zt_hh zp_P zt_cl zt_tf zt_fd zt_nf zt_T zt_N zm_332 := zz_w_okM zw_332 zb_332 (zz_places goodWord zq_332 zg_332)
set_option maxRecDepth 100000 in
theorem zd_333_0 : ∀ r ∈ zl_333_0, decode zm_333.1.2.1 r.1 = .ok (r.2.1, r.2.2.1) := by decide +kernel
set_option maxRecDepth 100000 in
theorem zq_333_0 : (zl_333_0.flatMap (zz_wr zt_hh zp_P zt_cl zm_333.1.1.cls)).map some = ([2293, 159, 2291, 1843, 2300, 160, 2298, 2273, 154, 2271, 2273, 154, 2271, 2300, 160, 2298] : List Nat).map (fun i => lw_tbl[i]?) := by rfl
set_option maxRecDepth 100000 in
theorem zg_333_0 : (zl_333_0.flatMap (zz_wr zt_hh zp_P zt_cl zm_333.1.1.cls)).all goodWord = true := by decide +kernel
set_option maxRecDepth 100000 in
theorem zr_333_0 : (zl_333_0.flatMap (zz_wn zp_P zm_333.1.1.cls)).map some = ([] : List Nat).map (fun i => lw_tbl[i]?) := by rfl
set_option maxRecDepth 100000 in
theorem zs_333_0 : (zl_333_0.flatMap (zz_wn zp_P zm_333.1.1.cls)).all zz_isN = true := by decide +kernel
set_option maxRecDepth 100000 in
theorem zb_333_0 : zl_333_0.all (fun r => zz_wb zt_hh zp_P zt_cl zt_tf zt_fd zt_nf zm_333.1.1.cls zm_333.1.1.name r) = true := by decide +kernel
set_option maxRecDepth 100000 in
theorem zd_333_1 : ∀ r ∈ zl_333_1, decode zm_333.1.2.1 r.1 = .ok (r.2.1, r.2.2.1) := by decide +kernel
set_option maxRecDepth 100000 in
theorem zq_333_1 : (zl_333_1.flatMap (zz_wr zt_hh zp_P zt_cl zm_333.1.1.cls)).map some = ([2316, 164, 2314, 2300, 160, 2298, 2273, 154, 2271, 2304, 161, 2302, 2300, 160, 2298, 2363, 175, 2361, 2304, 161, 2302] : List Nat).map (fun i => lw_tbl[i]?) := by rfl
set_option maxRecDepth 100000 in
theorem zg_333_1 : (zl_333_1.flatMap (zz_wr zt_hh zp_P zt_cl zm_333.1.1.cls)).all goodWord = true := by decide +kernel
set_option maxRecDepth 100000 in
theorem zr_333_1 : (zl_333_1.flatMap (zz_wn zp_P zm_333.1.1.cls)).map some = ([] : List Nat).map (fun i => lw_tbl[i]?) := by rfl
set_option maxRecDepth 100000 in
theorem zs_333_1 : (zl_333_1.flatMap (zz_wn zp_P zm_333.1.1.cls)).all zz_isN = true := by decide +kernel
set_option maxRecDepth 100000 in
theorem zb_333_1 : zl_333_1.all (fun r => zz_wb zt_hh zp_P zt_cl zt_tf zt_fd zt_nf zm_333.1.1.cls zm_333.1.1.name r) = true := by decide +kernel
set_option maxRecDepth 100000 in
theorem zd_333_2 : ∀ r ∈ zl_333_2, decode zm_333.1.2.1 r.1 = .ok (r.2.1, r.2.2.1) := by decide +kernel
set_option maxRecDepth 100000 in
theorem zq_333_2 : (zl_333_2.flatMap (zz_wr zt_hh zp_P zt_cl zm_333.1.1.cls)).map some = ([2387, 180, 2385, 2273, 154, 2271, 2300, 160, 2298, 1862, 2261, 151, 2259, 2395, 182, 2393, 2273, 154, 2271, 2300, 160, 2298] : List Nat).map (fun i => lw_tbl[i]?) := by rfl
set_option maxRecDepth 100000 in
theorem zg_333_2 : (zl_333_2.flatMap (zz_wr zt_hh zp_P zt_cl zm_333.1.1.cls)).all goodWord = true := by decide +kernel
set_option maxRecDepth 100000 in
theorem zr_333_2 : (zl_333_2.flatMap (zz_wn zp_P zm_333.1.1.cls)).map some = ([] : List Nat).map (fun i => lw_tbl[i]?) := by rfl
set_option maxRecDepth 100000 in
theorem zs_333_2 : (zl_333_2.flatMap (zz_wn zp_P zm_333.1.1.cls)).all zz_isN = true := by decide +kernel
set_option maxRecDepth 100000 in
theorem zb_333_2 : zl_333_2.all (fun r => zz_wb zt_hh zp_P zt_cl zt_tf zt_fd zt_nf zm_333.1.1.cls zm_333.1.1.name r) = true := by decide +kernel
set_option maxRecDepth 100000 in
theorem zd_333_3 : ∀ r ∈ zl_333_3, decode zm_333.1.2.1 r.1 = .ok (r.2.1, r.2.2.1) := by decide +kernel
set_option maxRecDepth 100000 in
theorem zq_333_3 : (zl_333_3.flatMap (zz_wr zt_hh zp_P zt_cl zm_333.1.1.cls)).map some = ([2316, 164, 2314, 2300, 160, 2298, 1862, 2261, 151, 2259, 2395, 182, 2393, 2273, 154, 2271, 2304, 161, 2302] : List Nat).map (fun i => lw_tbl[i]?) := by rfl
set_option maxRecDepth 100000 in
theorem zg_333_3 : (zl_333_3.flatMap (zz_wr zt_hh zp_P zt_cl zm_333.1.1.cls)).all goodWord = true := by decide +kernel
set_option maxRecDepth 100000 in
theorem zr_333_3 : (zl_333_3.flatMap (zz_wn zp_P zm_333.1.1.cls)).map some = ([] : List Nat).map (fun i => lw_tbl[i]?) := by rfl
set_option maxRecDepth 100000 in
theorem zs_333_3 : (zl_333_3.flatMap (zz_wn zp_P zm_333.1.1.cls)).all zz_isN = true := by decide +kernel
set_option maxRecDepth 100000 in
theorem zb_333_3 : zl_333_3.all (fun r => zz_wb zt_hh zp_P zt_cl zt_tf zt_fd zt_nf zm_333.1.1.cls zm_333.1.1.name r) = true := by decide +kernel
set_option maxRecDepth 100000 in
theorem zy_333_0 : zl_333_0.all (fun r => zz_tb zt_hh zp_P zm_333 r) = true := by decide +kernel
set_option maxRecDepth 100000 in
theorem zy_333_1 : zl_333_1.all (fun r => zz_tb zt_hh zp_P zm_333 r) = true := by decide +kernel
set_option maxRecDepth 100000 in
theorem zy_333_2 : zl_333_2.all (fun r => zz_tb zt_hh zp_P zm_333 r) = true := by decide +kernel
set_option maxRecDepth 100000 in
theorem zy_333_3 : zl_333_3.all (fun r => zz_tb zt_hh zp_P zm_333 r) = true := by decide +kernel
theorem zw_333 : zz_okW zt_hh zp_P zt_cl zt_tf zt_fd zt_nf zt_T zt_N zm_333 := List.forall_mem_cons.mpr ⟨(zz_w_okL zd_333_0 zb_333_0 (zz_places goodWord zq_333_0 zg_333_0) (zz_places zz_isN zr_333_0 zs_333_0) zy_333_0), List.forall_mem_cons.mpr ⟨(zz_w_okL zd_333_1 zb_333_1 (zz_places goodWord zq_333_1 zg_333_1) (zz_places zz_isN zr_333_1 zs_333_1) zy_333_1), List.forall_mem_cons.mpr ⟨(zz_w_okL zd_333_2 zb_333_2 (zz_places goodWord zq_333_2 zg_333_2) (zz_places zz_isN zr_333_2 zs_333_2) zy_333_2), List.forall_mem_cons.mpr ⟨(zz_w_okL zd_333_3 zb_333_3 (zz_places goodWord zq_333_3 zg_333_3) (zz_places zz_isN zr_333_3 zs_333_3) zy_333_3), (fun _ h => absurd h List.not_mem_nil)⟩⟩⟩⟩
set_option maxRecDepth 100000 in
theorem zq_333 : [zz_cw zt_hh zm_333, Cond.initialized zm_333.1.1.cls].map some = ([2384, 227] : List Nat).map (fun i => lw_tbl[i]?) := by rfl
set_option maxRecDepth 100000 in
theorem zg_333 : [zz_cw zt_hh zm_333, Cond.initialized zm_333.1.1.cls].all goodWord = true := by decide +kernel
set_option maxRecDepth 100000 in
theorem zb_333 : (plainName zm_333.1.1.cls && (decide (zm_333.1.1.cls ≠ "java/lang/invoke/MethodHandle" ∧ zm_333.1.1.cls ≠ "java/lang/invoke/VarHandle") && decide (zm_333.1.2.2.1 ≤ 40))) = true := by decide +kernel
theorem zo_333 : zz_okM zt_hh zp_P zt_cl zt_tf zt_fd zt_nf zt_T zt_N zm_333 := zz_w_okM zw_333 zb_333 (zz_places goodWord zq_333 zg_333)
set_option maxRecDepth 100000 in
theorem zd_334_0 : ∀ r ∈ zl_334_0, decode zm_334.1.2.1 r.1 = .ok (r.2.1, r.2.2.1) := by decide +kernel
set_option maxRecDepth 100000 in
theorem zq_334_0 : (zl_334_0.flatMap (zz_wr zt_hh zp_P zt_cl zm_334.1.1.cls)).map some = ([2391, 181, 2389, 2304, 161, 2302, 2300, 160, 2298, 1843, 2316, 164, 2314, 2391, 181, 2389, 2340, 170, 2338, 2304, 161, 2302] : List Nat).map (fun i => lw_tbl[i]?) := by rfl
set_option maxRecDepth 100000 in
theorem zg_334_0 : (zl_334_0.flatMap (zz_wr zt_hh zp_P zt_cl zm_334.1.1.cls)).all goodWord = true := by decide +kernel
set_option maxRecDepth 100000 in
theorem zr_334_0 : (zl_334_0.flatMap (zz_wn zp_P zm_334.1.1.cls)).map some = ([] : List Nat).map (fun i => lw_tbl[i]?) := by rfl
set_option maxRecDepth 100000 in
theorem zs_334_0 : (zl_334_0.flatMap (zz_wn zp_P zm_334.1.1.cls)).all zz_isN = true := by decide +kernel
set_option maxRecDepth 100000 in
theorem zb_334_0 : zl_334_0.all (fun r => zz_wb zt_hh zp_P zt_cl zt_tf zt_fd zt_nf zm_334.1.1.cls zm_334.1.1.name r) = true := by decide +kernel
set_option maxRecDepth 100000 in
theorem zy_334_0 : zl_334_0.all (fun r => zz_tb zt_hh zp_P zm_334 r) = true := by decide +kernel
theorem zw_334 : zz_okW zt_hh zp_P zt_cl zt_tf zt_fd zt_nf zt_T zt_N zm_334 := List.forall_mem_cons.mpr ⟨(zz_w_okL zd_334_0 zb_334_0 (zz_places goodWord zq_334_0 zg_334_0) (zz_places zz_isN zr_334_0 zs_334_0) zy_334_0), (fun _ h => absurd h List.not_mem_nil)⟩
set_option maxRecDepth 100000 in
theorem zq_334 : [zz_cw zt_hh zm_334, Cond.initialized zm_334.1.1.cls].map some = ([2388, 227] : List Nat).map (fun i => lw_tbl[i]?) := by rfl
set_option maxRecDepth 100000 in
theorem zg_334 : [zz_cw zt_hh zm_334, Cond.initialized zm_334.1.1.cls].all goodWord = true := by decide +kernel
set_option maxRecDepth 100000 in
theorem zb_334 : (plainName zm_334.1.1.cls && (decide (zm_334.1.1.cls ≠ "java/lang/invoke/MethodHandle" ∧ zm_334.1.1.cls ≠ "java/lang/invoke/VarHandle") && decide (zm_334.1.2.2.1 ≤ 40))) = true := by decide +kernel
theorem zo_334 : zz_okM zt_hh zp_P zt_cl zt_tf zt_fd zt_nf zt_T zt_N zm_334 := zz_w_okM zw_334 zb_334 (zz_places goodWord zq_334 zg_334)
set_option maxRecDepth 100000 in
theorem zd_335_0 : ∀ r ∈ zl_335_0, decode zm_335.1.2.1 r.1 = .ok (r.2.1, r.2.2.1) := by decide +kernel
set_option maxRecDepth 100000 in
theorem zq_335_0 : (zl_335_0.flatMap (zz_wr zt_hh zp_P zt_cl zm_335.1.1.cls)).map some = ([1839, 1843, 2300, 160, 2298, 2324, 166, 2322, 1839] : List Nat).map (fun i => lw_tbl[i]?) := by rfl
set_option maxRecDepth 100000 in
theorem zg_335_0 : (zl_335_0.flatMap (zz_wr zt_hh zp_P zt_cl zm_335.1.1.cls)).all goodWord = true := by decide +kernel
set_option maxRecDepth 100000 in
theorem zr_335_0 : (zl_335_0.flatMap (zz_wn zp_P zm_335.1.1.cls)).map some = ([] : List Nat).map (fun i => lw_tbl[i]?) := by rfl
set_option maxRecDepth 100000 in
theorem zs_335_0 : (zl_335_0.flatMap (zz_wn zp_P zm_335.1.1.cls)).all zz_isN = true := by decide +kernel
set_option maxRecDepth 100000 in
theorem zb_335_0 : zl_335_0.all (fun r => zz_wb zt_hh zp_P zt_cl zt_tf zt_fd zt_nf zm_335.1.1.cls zm_335.1.1.name r) = true := by decide +kernel
set_option maxRecDepth 100000 in
theorem zd_335_1 : ∀ r ∈ zl_335_1, decode zm_335.1.2.1 r.1 = .ok (r.2.1, r.2.2.1) := by decide +kernel
set_option maxRecDepth 100000 in
theorem zq_335_1 : (zl_335_1.flatMap (zz_wr zt_hh zp_P zt_cl zm_335.1.1.cls)).map some = ([2316, 164, 2314, 1862, 2261, 151, 2259, 2316, 164, 2314, 2300, 160, 2298, 1862, 2261, 151, 2259] : List Nat).map (fun i => lw_tbl[i]?) := by rfl
set_option maxRecDepth 100000 in
theorem zg_335_1 : (zl_335_1.flatMap (zz_wr zt_hh zp_P zt_cl zm_335.1.1.cls)).all goodWord = true := by decide +kernel
set_option maxRecDepth 100000 in
theorem zr_335_1 : (zl_335_1.flatMap (zz_wn zp_P zm_335.1.1.cls)).map some = ([] : List Nat).map (fun i => lw_tbl[i]?) := by rfl
set_option maxRecDepth 100000 in
theorem zs_335_1 : (zl_335_1.flatMap (zz_wn zp_P zm_335.1.1.cls)).all zz_isN = true := by decide +kernel
set_option maxRecDepth 100000 in
theorem zb_335_1 : zl_335_1.all (fun r => zz_wb zt_hh zp_P zt_cl zt_tf zt_fd zt_nf zm_335.1.1.cls zm_335.1.1.name r) = true := by decide +kernel
set_option maxRecDepth 100000 in
theorem zd_335_2 : ∀ r ∈ zl_335_2, decode zm_335.1.2.1 r.1 = .ok (r.2.1, r.2.2.1) := by decide +kernel
set_option maxRecDepth 100000 in
theorem zq_335_2 : (zl_335_2.flatMap (zz_wr zt_hh zp_P zt_cl zm_335.1.1.cls)).map some = ([2300, 160, 2298, 2324, 166, 2322, 2363, 175, 2361, 2316, 164, 2314, 2300, 160, 2298, 2316, 164, 2314, 2363, 175, 2361, 2304, 161, 2302] : List Nat).map (fun i => lw_tbl[i]?) := by rfl
set_option maxRecDepth 100000 in
theorem zg_335_2 : (zl_335_2.flatMap (zz_wr zt_hh zp_P zt_cl zm_335.1.1.cls)).all goodWord = true := by decide +kernel
set_option maxRecDepth 100000 in
theorem zr_335_2 : (zl_335_2.flatMap (zz_wn zp_P zm_335.1.1.cls)).map some = ([] : List Nat).map (fun i => lw_tbl[i]?) := by rfl
set_option maxRecDepth 100000 in
theorem zs_335_2 : (zl_335_2.flatMap (zz_wn zp_P zm_335.1.1.cls)).all zz_isN = true := by decide +kernel
set_option maxRecDepth 100000 in
theorem zb_335_2 : zl_335_2.all (fun r => zz_wb zt_hh zp_P zt_cl zt_tf zt_fd zt_nf zm_335.1.1.cls zm_335.1.1.name r) = true := by decide +kernel
set_option maxRecDepth 100000 in
theorem zd_335_3 : ∀ r ∈ zl_335_3, decode zm_335.1.2.1 r.1 = .ok (r.2.1, r.2.2.1) := by decide +kernel
set_option maxRecDepth 100000 in
theorem zq_335_3 : (zl_335_3.flatMap (zz_wr zt_hh zp_P zt_cl zm_335.1.1.cls)).map some = ([2300, 160, 2298, 2316, 164, 2314, 2300, 160, 2298, 2402, 2401, 2300, 160, 2298, 1839] : List Nat).map (fun i => lw_tbl[i]?) := by rfl
set_option maxRecDepth 100000 in
theorem zg_335_3 : (zl_335_3.flatMap (zz_wr zt_hh zp_P zt_cl zm_335.1.1.cls)).all goodWord = true := by decide +kernel
set_option maxRecDepth 100000 in
theorem zr_335_3 : (zl_335_3.flatMap (zz_wn zp_P zm_335.1.1.cls)).map some = ([] : List Nat).map (fun i => lw_tbl[i]?) := by rfl
set_option maxRecDepth 100000 in
theorem zs_335_3 : (zl_335_3.flatMap (zz_wn zp_P zm_335.1.1.cls)).all zz_isN = true := by decide +kernel
set_option maxRecDepth 100000 in
theorem zb_335_3 : zl_335_3.all (fun r => zz_wb zt_hh zp_P zt_cl zt_tf zt_fd zt_nf zm_335.1.1.cls zm_335.1.1.name r) = true := by decide +kernel
set_option maxRecDepth 100000 in
theorem zd_335_4 : ∀ r ∈ zl_335_4, decode zm_335.1.2.1 r.1 = .ok (r.2.1, r.2.2.1) := by decide +kernel
set_option maxRecDepth 100000 in
theorem zq_335_4 : (zl_335_4.flatMap (zz_wr zt_hh zp_P zt_cl zm_335.1.1.cls)).map some = ([2402, 2401, 1862, 2261, 151, 2259] : List Nat).map (fun i => lw_tbl[i]?) := by rfl
set_option maxRecDepth 100000 in
theorem zg_335_4 : (zl_335_4.flatMap (zz_wr zt_hh zp_P zt_cl zm_335.1.1.cls)).all goodWord = true := by decide +kernel
set_option maxRecDepth 100000 in
theorem zr_335_4 : (zl_335_4.flatMap (zz_wn zp_P zm_335.1.1.cls)).map some = ([] : List Nat).map (fun i => lw_tbl[i]?) := by rfl
set_option maxRecDepth 100000 in
theorem zs_335_4 : (zl_335_4.flatMap (zz_wn zp_P zm_335.1.1.cls)).all zz_isN = true := by decide +kernel
set_option maxRecDepth 100000 in
theorem zb_335_4 : zl_335_4.all (fun r => zz_wb zt_hh zp_P zt_cl zt_tf zt_fd zt_nf zm_335.1.1.cls zm_335.1.1.name r) = true := by decide +kernel
set_option maxRecDepth 100000 in
theorem zd_335_5 : ∀ r ∈ zl_335_5, decode zm_335.1.2.1 r.1 = .ok (r.2.1, r.2.2.1) := by decide +kernel
set_option maxRecDepth 100000 in
theorem zq_335_5 : (zl_335_5.flatMap (zz_wr zt_hh zp_P zt_cl zm_335.1.1.cls)).map some = ([1843, 2300, 160, 2298, 1839, 2273, 154, 2271, 2316, 164, 2314] : List Nat).map (fun i => lw_tbl[i]?) := by rfl
set_option maxRecDepth 100000 in
theorem zg_335_5 : (zl_335_5.flatMap (zz_wr zt_hh zp_P zt_cl zm_335.1.1.cls)).all goodWord = true := by decide +kernel
set_option maxRecDepth 100000 in
theorem zr_335_5 : (zl_335_5.flatMap (zz_wn zp_P zm_335.1.1.cls)).map some = ([] : List Nat).map (fun i => lw_tbl[i]?) := by rfl
set_option maxRecDepth 100000 in
theorem zs_335_5 : (zl_335_5.flatMap (zz_wn zp_P zm_335.1.1.cls)).all zz_isN = true := by decide +kernel
set_option maxRecDepth 100000 in
theorem zb_335_5 : zl_335_5.all (fun r => zz_wb zt_hh zp_P zt_cl zt_tf zt_fd zt_nf zm_335.1.1.cls zm_335.1.1.name r) = true := by decide +kernel
set_option maxRecDepth 100000 in
theorem zd_335_6 : ∀ r ∈ zl_335_6, decode zm_335.1.2.1 r.1 = .ok (r.2.1, r.2.2.1) := by decide +kernel
set_option maxRecDepth 100000 in
theorem zq_335_6 : (zl_335_6.flatMap (zz_wr zt_hh zp_P zt_cl zm_335.1.1.cls)).map some = ([2300, 160, 2298, 2316, 164, 2314, 2363, 175, 2361, 2340, 170, 2338, 2304, 161, 2302] : List Nat).map (fun i => lw_tbl[i]?) := by rfl
set_option maxRecDepth 100000 in
theorem zg_335_6 : (zl_335_6.flatMap (zz_wr zt_hh zp_P zt_cl zm_335.1.1.cls)).all goodWord = true := by decide +kernel
set_option maxRecDepth 100000 in
theorem zr_335_6 : (zl_335_6.flatMap (zz_wn zp_P zm_335.1.1.cls)).map some = ([] : List Nat).map (fun i => lw_tbl[i]?) := by rfl
set_option maxRecDepth 100000 in
theorem zs_335_6 : (zl_335_6.flatMap (zz_wn zp_P zm_335.1.1.cls)).all zz_isN = true := by decide +kernel
set_option maxRecDepth 100000 in
theorem zb_335_6 : zl_335_6.all (fun r => zz_wb zt_hh zp_P zt_cl zt_tf zt_fd zt_nf zm_335.1.1.cls zm_335.1.1.name r) = true := by decide +kernel
set_option maxRecDepth 100000 in
theorem zy_335_0 : zl_335_0.all (fun r => zz_tb zt_hh zp_P zm_335 r) = true := by decide +kernel
set_option maxRecDepth 100000 in
theorem zy_335_1 : zl_335_1.all (fun r => zz_tb zt_hh zp_P zm_335 r) = true := by decide +kernel
set_option maxRecDepth 100000 in
theorem zy_335_2 : zl_335_2.all (fun r => zz_tb zt_hh zp_P zm_335 r) = true := by decide +kernel
set_option maxRecDepth 100000 in
theorem zy_335_3 : zl_335_3.all (fun r => zz_tb zt_hh zp_P zm_335 r) = true := by decide +kernel
set_option maxRecDepth 100000 in
theorem zy_335_4 : zl_335_4.all (fun r => zz_tb zt_hh zp_P zm_335 r) = true := by decide +kernel
set_option maxRecDepth 100000 in
theorem zy_335_5 : zl_335_5.all (fun r => zz_tb zt_hh zp_P zm_335 r) = true := by decide +kernel
set_option maxRecDepth 100000 in
theorem zy_335_6 : zl_335_6.all (fun r => zz_tb zt_hh zp_P zm_335 r) = true := by decide +kernel
theorem zw_335 : zz_okW zt_hh zp_P zt_cl zt_tf zt_fd zt_nf zt_T zt_N zm_335 := List.forall_mem_cons.mpr ⟨(zz_w_okL zd_335_0 zb_335_0 (zz_places goodWord zq_335_0 zg_335_0) (zz_places zz_isN zr_335_0 zs_335_0) zy_335_0), List.forall_mem_cons.mpr ⟨(zz_w_okL zd_335_1 zb_335_1 (zz_places goodWord zq_335_1 zg_335_1) (zz_places zz_isN zr_335_1 zs_335_1) zy_335_1), List.forall_mem_cons.mpr ⟨(zz_w_okL zd_335_2 zb_335_2 (zz_places goodWord zq_335_2 zg_335_2) (zz_places zz_isN zr_335_2 zs_335_2) zy_335_2), List.forall_mem_cons.mpr ⟨(zz_w_okL zd_335_3 zb_335_3 (zz_places goodWord zq_335_3 zg_335_3) (zz_places zz_isN zr_335_3 zs_335_3) zy_335_3), List.forall_mem_cons.mpr ⟨(zz_w_okL zd_335_4 zb_335_4 (zz_places goodWord zq_335_4 zg_335_4) (zz_places zz_isN zr_335_4 zs_335_4) zy_335_4), List.forall_mem_cons.mpr ⟨(zz_w_okL zd_335_5 zb_335_5 (zz_places goodWord zq_335_5 zg_335_5) (zz_places zz_isN zr_335_5 zs_335_5) zy_335_5), List.forall_mem_cons.mpr ⟨(zz_w_okL zd_335_6 zb_335_6 (zz_places goodWord zq_335_6 zg_335_6) (zz_places zz_isN zr_335_6 zs_335_6) zy_335_6), (fun _ h => absurd h List.not_mem_nil)⟩⟩⟩⟩⟩⟩⟩
set_option maxRecDepth 100000 in
theorem zq_335 : [zz_cw zt_hh zm_335, Cond.initialized zm_335.1.1.cls].map some = ([2400, 227] : List Nat).map (fun i => lw_tbl[i]?) := by rfl
set_option maxRecDepth 100000 in
theorem zg_335 : [zz_cw zt_hh zm_335, Cond.initialized zm_335.1.1.cls].all goodWord = true := by decide +kernel
set_option maxRecDepth 100000 in
theorem zb_335 : (plainName zm_335.1.1.cls && (decide (zm_335.1.1.cls ≠ "java/lang/invoke/MethodHandle" ∧ zm_335.1.1.cls ≠ "java/lang/invoke/VarHandle") && decide (zm_335.1.2.2.1 ≤ 40))) = true := by decide +kernel
theorem zo_335 : zz_okM zt_hh zp_P zt_cl zt_tf zt_fd zt_nf zt_T zt_N zm_335 := zz_w_okM zw_335 zb_335 (zz_places goodWord zq_335 zg_335)
set_option maxRecDepth 100000 in
theorem zd_336_0 : ∀ r ∈ zl_336_0, decode zm_336.1.2.1 r.1 = .ok (r.2.1, r.2.2.1) := by decide +kernel
set_option maxRecDepth 100000 in
theorem zq_336_0 : (zl_336_0.flatMap (zz_wr zt_hh zp_P zt_cl zm_336.1.1.cls)).map some = ([2273, 154, 2271, 2300, 160, 2298, 2363, 175, 2361] : List Nat).map (fun i => lw_tbl[i]?) := by rfl
set_option maxRecDepth 100000 in
theorem zg_336_0 : (zl_336_0.flatMap (zz_wr zt_hh zp_P zt_cl zm_336.1.1.cls)).all goodWord = true := by decide +kernel
set_option maxRecDepth 100000 in
theorem zr_336_0 : (zl_336_0.flatMap (zz_wn zp_P zm_336.1.1.cls)).map some = ([] : List Nat).map (fun i => lw_tbl[i]?) := by rfl
set_option maxRecDepth 100000 in
theorem zs_336_0 : (zl_336_0.flatMap (zz_wn zp_P zm_336.1.1.cls)).all zz_isN = true := by decide +kernel
set_option maxRecDepth 100000 in
theorem zb_336_0 : zl_336_0.all (fun r => zz_wb zt_hh zp_P zt_cl zt_tf zt_fd zt_nf zm_336.1.1.cls zm_336.1.1.name r) = true := by decide +kernel
set_option maxRecDepth 100000 in
theorem zy_336_0 : zl_336_0.all (fun r => zz_tb zt_hh zp_P zm_336 r) = true := by decide +kernel
theorem zw_336 : zz_okW zt_hh zp_P zt_cl zt_tf zt_fd zt_nf zt_T zt_N zm_336 := List.forall_mem_cons.mpr ⟨(zz_w_okL zd_336_0 zb_336_0 (zz_places goodWord zq_336_0 zg_336_0) (zz_places zz_isN zr_336_0 zs_336_0) zy_336_0), (fun _ h => absurd h List.not_mem_nil)⟩
set_option maxRecDepth 100000 in
theorem zq_336 : [zz_cw zt_hh zm_336, Cond.initialized zm_336.1.1.cls].map some = ([2415, 227] : List Nat).map (fun i => lw_tbl[i]?) := by rfl
set_option maxRecDepth 100000 in
theorem zg_336 : [zz_cw zt_hh zm_336, Cond.initialized zm_336.1.1.cls].all goodWord = true := by decide +kernel
set_option maxRecDepth 100000 in
theorem zb_336 : (plainName zm_336.1.1.cls && (decide (zm_336.1.1.cls ≠ "java/lang/invoke/MethodHandle" ∧ zm_336.1.1.cls ≠ "java/lang/invoke/VarHandle") && decide (zm_336.1.2.2.1 ≤ 40))) = true := by decide +kernel
theorem zo_336 : zz_okM zt_hh zp_P zt_cl zt_tf zt_fd zt_nf zt_T zt_N zm_336 := zz_w_okM zw_336 zb_336 (zz_places goodWord zq_336 zg_336)
set_option maxRecDepth 100000 in
theorem zd_337_0 : ∀ r ∈ zl_337_0, decode zm_337.1.2.1 r.1 = .ok (r.2.1, r.2.2.1) := by decide +kernel
set_option maxRecDepth 100000 in
theorem zq_337_0 : (zl_337_0.flatMap (zz_wr zt_hh zp_P zt_cl zm_337.1.1.cls)).map some = ([1841, 1841, 2293, 159, 2291, 2293, 159, 2291] : List Nat).map (fun i => lw_tbl[i]?) := by rfl
set_option maxRecDepth 100000 in
theorem zg_337_0 : (zl_337_0.flatMap (zz_wr zt_hh zp_P zt_cl zm_337.1.1.cls)).all goodWord = true := by decide +kernel
set_option maxRecDepth 100000 in
theorem zr_337_0 : (zl_337_0.flatMap (zz_wn zp_P zm_337.1.1.cls)).map some = ([] : List Nat).map (fun i => lw_tbl[i]?) := by rfl
set_option maxRecDepth 100000 in
theorem zs_337_0 : (zl_337_0.flatMap (zz_wn zp_P zm_337.1.1.cls)).all zz_isN = true := by decide +kernel
set_option maxRecDepth 100000 in
theorem zb_337_0 : zl_337_0.all (fun r => zz_wb zt_hh zp_P zt_cl zt_tf zt_fd zt_nf zm_337.1.1.cls zm_337.1.1.name r) = true := by decide +kernel
set_option maxRecDepth 100000 in
theorem zd_337_1 : ∀ r ∈ zl_337_1, decode zm_337.1.2.1 r.1 = .ok (r.2.1, r.2.2.1) := by decide +kernel
set_option maxRecDepth 100000 in
theorem zq_337_1 : (zl_337_1.flatMap (zz_wr zt_hh zp_P zt_cl zm_337.1.1.cls)).map some = ([1843, 2414, 186, 2412, 2414, 186, 2412, 2304, 161, 2302] : List Nat).map (fun i => lw_tbl[i]?) := by rfl
set_option maxRecDepth 100000 in
theorem zg_337_1 : (zl_337_1.flatMap (zz_wr zt_hh zp_P zt_cl zm_337.1.1.cls)).all goodWord = true := by decide +kernel
set_option maxRecDepth 100000 in
theorem zr_337_1 : (zl_337_1.flatMap (zz_wn zp_P zm_337.1.1.cls)).map some = ([] : List Nat).map (fun i => lw_tbl[i]?) := by rfl
set_option maxRecDepth 100000 in
theorem zs_337_1 : (zl_337_1.flatMap (zz_wn zp_P zm_337.1.1.cls)).all zz_isN = true := by decide +kernel
set_option maxRecDepth 100000 in
theorem zb_337_1 : zl_337_1.all (fun r => zz_wb zt_hh zp_P zt_cl zt_tf zt_fd zt_nf zm_337.1.1.cls zm_337.1.1.name r) = true := by decide +kernel
set_option maxRecDepth 100000 in
theorem zy_337_0 : zl_337_0.all (fun r => zz_tb zt_hh zp_P zm_337 r) = true := by decide +kernel
set_option maxRecDepth 100000 in
theorem zy_337_1 : zl_337_1.all (fun r => zz_tb zt_hh zp_P zm_337 r) = true := by decide +kernel
theorem zw_337 : zz_okW zt_hh zp_P zt_cl zt_tf zt_fd zt_nf zt_T zt_N zm_337 := List.forall_mem_cons.mpr ⟨(zz_w_okL zd_337_0 zb_337_0 (zz_places goodWord zq_337_0 zg_337_0) (zz_places zz_isN zr_337_0 zs_337_0) zy_337_0), List.forall_mem_cons.mpr ⟨(zz_w_okL zd_337_1 zb_337_1 (zz_places goodWord zq_337_1 zg_337_1) (zz_places zz_isN zr_337_1 zs_337_1) zy_337_1), (fun _ h => absurd h List.not_mem_nil)⟩⟩
set_option maxRecDepth 100000 in
theorem zq_337 : [zz_cw zt_hh zm_337, Cond.initialized zm_337.1.1.cls].map some = ([2411, 227] : List Nat).map (fun i => lw_tbl[i]?) := by rfl
set_option maxRecDepth 100000 in
theorem zg_337 : [zz_cw zt_hh zm_337, Cond.initialized zm_337.1.1.cls].all goodWord = true := by decide +kernel
set_option maxRecDepth 100000 in
theorem zb_337 : (plainName zm_337.1.1.cls && (decide (zm_337.1.1.cls ≠ "java/lang/invoke/MethodHandle" ∧ zm_337.1.1.cls ≠ "java/lang/invoke/VarHandle") && decide (zm_337.1.2.2.1 ≤ 40))) = true := by decide +kernel
theorem zo_337 : zz_okM zt_hh zp_P zt_cl zt_tf zt_fd zt_nf zt_T zt_N zm_337 := zz_w_okM zw_337 zb_337 (zz_places goodWord zq_337 zg_337)
set_option maxRecDepth 100000 in
theorem zd_338_0 : ∀ r ∈ zl_338_0, decode zm_338.1.2.1 r.1 = .ok (r.2.1, r.2.2.1) := by decide +kernel
set_option maxRecDepth 100000 in
theorem zq_338_0 : (zl_338_0.flatMap (zz_wr zt_hh zp_P zt_cl zm_338.1.1.cls)).map some = ([1839, 2300, 160, 2298, 2420, 2421, 1862, 2261, 151, 2259, 1843] : List Nat).map (fun i => lw_tbl[i]?) := by rfl
set_option maxRecDepth 100000 in
theorem zg_338_0 : (zl_338_0.flatMap (zz_wr zt_hh zp_P zt_cl zm_338.1.1.cls)).all goodWord = true := by decide +kernel
set_option maxRecDepth 100000 in
theorem zr_338_0 : (zl_338_0.flatMap (zz_wn zp_P zm_338.1.1.cls)).map some = ([] : List Nat).map (fun i => lw_tbl[i]?) := by rfl
set_option maxRecDepth 100000 in
theorem zs_338_0 : (zl_338_0.flatMap (zz_wn zp_P zm_338.1.1.cls)).all zz_isN = true := by decide +kernel
set_option maxRecDepth 100000 in
theorem zb_338_0 : zl_338_0.all (fun r => zz_wb zt_hh zp_P zt_cl zt_tf zt_fd zt_nf zm_338.1.1.cls zm_338.1.1.name r) = true := by decide +kernel
set_option maxRecDepth 100000 in
theorem zd_338_1 : ∀ r ∈ zl_338_1, decode zm_338.1.2.1 r.1 = .ok (r.2.1, r.2.2.1) := by decide +kernel
set_option maxRecDepth 100000 in
theorem zq_338_1 : (zl_338_1.flatMap (zz_wr zt_hh zp_P zt_cl zm_338.1.1.cls)).map some = ([2363, 175, 2361, 2304, 161, 2302] : List Nat).map (fun i => lw_tbl[i]?) := by rfl
set_option maxRecDepth 100000 in
theorem zg_338_1 : (zl_338_1.flatMap (zz_wr zt_hh zp_P zt_cl zm_338.1.1.cls)).all goodWord = true := by decide +kernel
set_option maxRecDepth 100000 in
theorem zr_338_1 : (zl_338_1.flatMap (zz_wn zp_P zm_338.1.1.cls)).map some = ([] : List Nat).map (fun i => lw_tbl[i]?) := by rfl
set_option maxRecDepth 100000 in
theorem zs_338_1 : (zl_338_1.flatMap (zz_wn zp_P zm_338.1.1.cls)).all zz_isN = true := by decide +kernel
set_option maxRecDepth 100000 in
theorem zb_338_1 : zl_338_1.all (fun r => zz_wb zt_hh zp_P zt_cl zt_tf zt_fd zt_nf zm_338.1.1.cls zm_338.1.1.name r) = true := by decide +kernel
set_option maxRecDepth 100000 in
theorem zd_338_2 : ∀ r ∈ zl_338_2, decode zm_338.1.2.1 r.1 = .ok (r.2.1, r.2.2.1) := by decide +kernel
set_option maxRecDepth 100000 in
theorem zq_338_2 : (zl_338_2.flatMap (zz_wr zt_hh zp_P zt_cl zm_338.1.1.cls)).map some = ([2363, 175, 2361, 2253, 2273, 154, 2271] : List Nat).map (fun i => lw_tbl[i]?) := by rfl
set_option maxRecDepth 100000 in
theorem zg_338_2 : (zl_338_2.flatMap (zz_wr zt_hh zp_P zt_cl zm_338.1.1.cls)).all goodWord = true := by decide +kernel
set_option maxRecDepth 100000 in
theorem zr_338_2 : (zl_338_2.flatMap (zz_wn zp_P zm_338.1.1.cls)).map some = ([] : List Nat).map (fun i => lw_tbl[i]?) := by rfl
set_option maxRecDepth 100000 in
theorem zs_338_2 : (zl_338_2.flatMap (zz_wn zp_P zm_338.1.1.cls)).all zz_isN = true := by decide +kernel
set_option maxRecDepth 100000 in
theorem zb_338_2 : zl_338_2.all (fun r => zz_wb zt_hh zp_P zt_cl zt_tf zt_fd zt_nf zm_338.1.1.cls zm_338.1.1.name r) = true := by decide +kernel
set_option maxRecDepth 100000 in
theorem zd_338_3 : ∀ r ∈ zl_338_3, decode zm_338.1.2.1 r.1 = .ok (r.2.1, r.2.2.1) := by decide +kernel
set_option maxRecDepth 100000 in
theorem zq_338_3 : (zl_338_3.flatMap (zz_wr zt_hh zp_P zt_cl zm_338.1.1.cls)).map some = ([2304, 161, 2302] : List Nat).map (fun i => lw_tbl[i]?) := by rfl
set_option maxRecDepth 100000 in
theorem zg_338_3 : (zl_338_3.flatMap (zz_wr zt_hh zp_P zt_cl zm_338.1.1.cls)).all goodWord = true := by decide +kernel
set_option maxRecDepth 100000 in
theorem zr_338_3 : (zl_338_3.flatMap (zz_wn zp_P zm_338.1.1.cls)).map some = ([] : List Nat).map (fun i => lw_tbl[i]?) := by rfl
set_option maxRecDepth 100000 in
theorem zs_338_3 : (zl_338_3.flatMap (zz_wn zp_P zm_338.1.1.cls)).all zz_isN = true := by decide +kernel
set_option maxRecDepth 100000 in
theorem zb_338_3 : zl_338_3.all (fun r => zz_wb zt_hh zp_P zt_cl zt_tf zt_fd zt_nf zm_338.1.1.cls zm_338.1.1.name r) = true := by decide +kernel
set_option maxRecDepth 100000 in
theorem zy_338_0 : zl_338_0.all (fun r => zz_tb zt_hh zp_P zm_338 r) = true := by decide +kernel
set_option maxRecDepth 100000 in
theorem zy_338_1 : zl_338_1.all (fun r => zz_tb zt_hh zp_P zm_338 r) = true := by decide +kernel
set_option maxRecDepth 100000 in
theorem zy_338_2 : zl_338_2.all (fun r => zz_tb zt_hh zp_P zm_338 r) = true := by decide +kernel
set_option maxRecDepth 100000 in
theorem zy_338_3 : zl_338_3.all (fun r => zz_tb zt_hh zp_P zm_338 r) = true := by decide +kernel
theorem zw_338 : zz_okW zt_hh zp_P zt_cl zt_tf zt_fd zt_nf zt_T zt_N zm_338 := List.forall_mem_cons.mpr ⟨(zz_w_okL zd_338_0 zb_338_0 (zz_places goodWord zq_338_0 zg_338_0) (zz_places zz_isN zr_338_0 zs_338_0) zy_338_0), List.forall_mem_cons.mpr ⟨(zz_w_okL zd_338_1 zb_338_1 (zz_places goodWord zq_338_1 zg_338_1) (zz_places zz_isN zr_338_1 zs_338_1) zy_338_1), List.forall_mem_cons.mpr ⟨(zz_w_okL zd_338_2 zb_338_2 (zz_places goodWord zq_338_2 zg_338_2) (zz_places zz_isN zr_338_2 zs_338_2) zy_338_2), List.forall_mem_cons.mpr ⟨(zz_w_okL zd_338_3 zb_338_3 (zz_places goodWord zq_338_3 zg_338_3) (zz_places zz_isN zr_338_3 zs_338_3) zy_338_3), (fun _ h => absurd h List.not_mem_nil)⟩⟩⟩⟩
set_option maxRecDepth 100000 in
theorem zq_338 : [zz_cw zt_hh zm_338, Cond.initialized zm_338.1.1.cls].map some = ([2419, 227] : List Nat).map (fun i => lw_tbl[i]?) := by rfl
set_option maxRecDepth 100000 in
theorem zg_338 : [zz_cw zt_hh zm_338, Cond.initialized zm_338.1.1.cls].all goodWord = true := by decide +kernel
set_option maxRecDepth 100000 in
theorem zb_338 : (plainName zm_338.1.1.cls && (decide (zm_338.1.1.cls ≠ "java/lang/invoke/MethodHandle" ∧ zm_338.1.1.cls ≠ "java/lang/invoke/VarHandle") && decide (zm_338.1.2.2.1 ≤ 40))) = true := by decide +kernel
theorem zo_338 : zz_okM zt_hh zp_P zt_cl zt_tf zt_fd zt_nf zt_T zt_N zm_338 := zz_w_okM zw_338 zb_338 (zz_places goodWord zq_338 zg_338)
set_option maxRecDepth 100000 in
theorem zd_339_0 : ∀ r ∈ zl_339_0, decode zm_339.1.2.1 r.1 = .ok (r.2.1, r.2.2.1) := by decide +kernel
set_option maxRecDepth 100000 in
theorem zq_339_0 : (zl_339_0.flatMap (zz_wr zt_hh zp_P zt_cl zm_339.1.1.cls)).map some = ([2300, 160, 2298, 1839, 1839] : List Nat).map (fun i => lw_tbl[i]?) := by rfl
set_option maxRecDepth 100000 in
theorem zg_339_0 : (zl_339_0.flatMap (zz_wr zt_hh zp_P zt_cl zm_339.1.1.cls)).all goodWord = true := by decide +kernel
set_option maxRecDepth 100000 in
theorem zr_339_0 : (zl_339_0.flatMap (zz_wn zp_P zm_339.1.1.cls)).map some = ([] : List Nat).map (fun i => lw_tbl[i]?) := by rfl
set_option maxRecDepth 100000 in
theorem zs_339_0 : (zl_339_0.flatMap (zz_wn zp_P zm_339.1.1.cls)).all zz_isN = true := by decide +kernel
set_option maxRecDepth 100000 in
theorem zb_339_0 : zl_339_0.all (fun r => zz_wb zt_hh zp_P zt_cl zt_tf zt_fd zt_nf zm_339.1.1.cls zm_339.1.1.name r) = true := by decide +kernel
set_option maxRecDepth 100000 in
theorem zd_339_1 : ∀ r ∈ zl_339_1, decode zm_339.1.2.1 r.1 = .ok (r.2.1, r.2.2.1) := by decide +kernel
set_option maxRecDepth 100000 in
theorem zq_339_1 : (zl_339_1.flatMap (zz_wr zt_hh zp_P zt_cl zm_339.1.1.cls)).map some = ([2300, 160, 2298, 1862, 2261, 151, 2259, 1843] : List Nat).map (fun i => lw_tbl[i]?) := by rfl
set_option maxRecDepth 100000 in
theorem zg_339_1 : (zl_339_1.flatMap (zz_wr zt_hh zp_P zt_cl zm_339.1.1.cls)).all goodWord = true := by decide +kernel
set_option maxRecDepth 100000 in
theorem zr_339_1 : (zl_339_1.flatMap (zz_wn zp_P zm_339.1.1.cls)).map some = ([] : List Nat).map (fun i => lw_tbl[i]?) := by rfl
set_option maxRecDepth 100000 in
theorem zs_339_1 : (zl_339_1.flatMap (zz_wn zp_P zm_339.1.1.cls)).all zz_isN = true := by decide +kernel
set_option maxRecDepth 100000 in
theorem zb_339_1 : zl_339_1.all (fun r => zz_wb zt_hh zp_P zt_cl zt_tf zt_fd zt_nf zm_339.1.1.cls zm_339.1.1.name r) = true := by decide +kernel
set_option maxRecDepth 100000 in
theorem zd_339_2 : ∀ r ∈ zl_339_2, decode zm_339.1.2.1 r.1 = .ok (r.2.1, r.2.2.1) := by decide +kernel
set_option maxRecDepth 100000 in
theorem zq_339_2 : (zl_339_2.flatMap (zz_wr zt_hh zp_P zt_cl zm_339.1.1.cls)).map some = ([1843, 1839, 2363, 175, 2361, 2340, 170, 2338, 2304, 161, 2302] : List Nat).map (fun i => lw_tbl[i]?) := by rfl
set_option maxRecDepth 100000 in
theorem zg_339_2 : (zl_339_2.flatMap (zz_wr zt_hh zp_P zt_cl zm_339.1.1.cls)).all goodWord = true := by decide +kernel
set_option maxRecDepth 100000 in
theorem zr_339_2 : (zl_339_2.flatMap (zz_wn zp_P zm_339.1.1.cls)).map some = ([] : List Nat).map (fun i => lw_tbl[i]?) := by rfl
set_option maxRecDepth 100000 in
theorem zs_339_2 : (zl_339_2.flatMap (zz_wn zp_P zm_339.1.1.cls)).all zz_isN = true := by decide +kernel
set_option maxRecDepth 100000 in
theorem zb_339_2 : zl_339_2.all (fun r => zz_wb zt_hh zp_P zt_cl zt_tf zt_fd zt_nf zm_339.1.1.cls zm_339.1.1.name r) = true := by decide +kernel
set_option maxRecDepth 100000 in
theorem zy_339_0 : zl_339_0.all (fun r => zz_tb zt_hh zp_P zm_339 r) = true := by decide +kernel
set_option maxRecDepth 100000 in
theorem zy_339_1 : zl_339_1.all (fun r => zz_tb zt_hh zp_P zm_339 r) = true := by decide +kernel
set_option maxRecDepth 100000 in
theorem zy_339_2 : zl_339_2.all (fun r => zz_tb zt_hh zp_P zm_339 r) = true := by decide +kernel
theorem zw_339 : zz_okW zt_hh zp_P zt_cl zt_tf zt_fd zt_nf zt_T zt_N zm_339 := List.forall_mem_cons.mpr ⟨(zz_w_okL zd_339_0 zb_339_0 (zz_places goodWord zq_339_0 zg_339_0) (zz_places zz_isN zr_339_0 zs_339_0) zy_339_0), List.forall_mem_cons.mpr ⟨(zz_w_okL zd_339_1 zb_339_1 (zz_places goodWord zq_339_1 zg_339_1) (zz_places zz_isN zr_339_1 zs_339_1) zy_339_1), List.forall_mem_cons.mpr ⟨(zz_w_okL zd_339_2 zb_339_2 (zz_places goodWord zq_339_2 zg_339_2) (zz_places zz_isN zr_339_2 zs_339_2) zy_339_2), (fun _ h => absurd h List.not_mem_nil)⟩⟩⟩
set_option maxRecDepth 100000 in
theorem zq_339 : [zz_cw zt_hh zm_339, Cond.initialized zm_339.1.1.cls].map some = ([2425, 227] : List Nat).map (fun i => lw_tbl[i]?) := by rfl
set_option maxRecDepth 100000 in
theorem zg_339 : [zz_cw zt_hh zm_339, Cond.initialized zm_339.1.1.cls].all goodWord = true := by decide +kernel
set_option maxRecDepth 100000 in
theorem zb_339 : (plainName zm_339.1.1.cls && (decide (zm_339.1.1.cls ≠ "java/lang/invoke/MethodHandle" ∧ zm_339.1.1.cls ≠ "java/lang/invoke/VarHandle") && decide (zm_339.1.2.2.1 ≤ 40))) = true := by decide +kernel
theorem zo_339 : zz_okM zt_hh zp_P zt_cl zt_tf zt_fd zt_nf zt_T zt_N zm_339 := zz_w_okM zw_339 zb_339 (zz_places goodWord zq_339 zg_339)
set_option maxRecDepth 100000 in
theorem zd_340_0 : ∀ r ∈ zl_340_0, decode zm_340.1.2.1 r.1 = .ok (r.2.1, r.2.2.1) := by decide +kernel
set_option maxRecDepth 100000 in
theorem zq_340_0 : (zl_340_0.flatMap (zz_wr zt_hh zp_P zt_cl zm_340.1.1.cls)).map some = ([1839, 2300, 160, 2298, 2300, 160, 2298, 1862, 2261, 151, 2259, 1843, 2300, 160, 2298, 1839] : List Nat).map (fun i => lw_tbl[i]?) := by rfl
set_option maxRecDepth 100000 in
theorem zg_340_0 : (zl_340_0.flatMap (zz_wr zt_hh zp_P zt_cl zm_340.1.1.cls)).all goodWord = true := by decide +kernel
set_option maxRecDepth 100000 in
theorem zr_340_0 : (zl_340_0.flatMap (zz_wn zp_P zm_340.1.1.cls)).map some = ([] : List Nat).map (fun i => lw_tbl[i]?) := by rfl
set_option maxRecDepth 100000 in
theorem zs_340_0 : (zl_340_0.flatMap (zz_wn zp_P zm_340.1.1.cls)).all zz_isN = true := by decide +kernel
set_option maxRecDepth 100000 in
theorem zb_340_0 : zl_340_0.all (fun r => zz_wb zt_hh zp_P zt_cl zt_tf zt_fd zt_nf zm_340.1.1.cls zm_340.1.1.name r) = true := by decide +kernel
set_option maxRecDepth 100000 in
theorem zd_340_1 : ∀ r ∈ zl_340_1, decode zm_340.1.2.1 r.1 = .ok (r.2.1, r.2.2.1) := by decide +kernel
set_option maxRecDepth 100000 in
theorem zq_340_1 : (zl_340_1.flatMap (zz_wr zt_hh zp_P zt_cl zm_340.1.1.cls)).map some = ([2363, 175, 2361, 2304, 161, 2302] : List Nat).map (fun i => lw_tbl[i]?) := by rfl
set_option maxRecDepth 100000 in
theorem zg_340_1 : (zl_340_1.flatMap (zz_wr zt_hh zp_P zt_cl zm_340.1.1.cls)).all goodWord = true := by decide +kernel
set_option maxRecDepth 100000 in
theorem zr_340_1 : (zl_340_1.flatMap (zz_wn zp_P zm_340.1.1.cls)).map some = ([] : List Nat).map (fun i => lw_tbl[i]?) := by rfl
set_option maxRecDepth 100000 in
theorem zs_340_1 : (zl_340_1.flatMap (zz_wn zp_P zm_340.1.1.cls)).all zz_isN = true := by decide +kernel
set_option maxRecDepth 100000 in
theorem zb_340_1 : zl_340_1.all (fun r => zz_wb zt_hh zp_P zt_cl zt_tf zt_fd zt_nf zm_340.1.1.cls zm_340.1.1.name r) = true := by decide +kernel
set_option maxRecDepth 100000 in
theorem zy_340_0 : zl_340_0.all (fun r => zz_tb zt_hh zp_P zm_340 r) = true := by decide +kernel
set_option maxRecDepth 100000 in
theorem zy_340_1 : zl_340_1.all (fun r => zz_tb zt_hh zp_P zm_340 r) = true := by decide +kernel
theorem zw_340 : zz_okW zt_hh zp_P zt_cl zt_tf zt_fd zt_nf zt_T zt_N zm_340 := List.forall_mem_cons.mpr ⟨(zz_w_okL zd_340_0 zb_340_0 (zz_places goodWord zq_340_0 zg_340_0) (zz_places zz_isN zr_340_0 zs_340_0) zy_340_0), List.forall_mem_cons.mpr ⟨(zz_w_okL zd_340_1 zb_340_1 (zz_places goodWord zq_340_1 zg_340_1) (zz_places zz_isN zr_340_1 zs_340_1) zy_340_1), (fun _ h => absurd h List.not_mem_nil)⟩⟩
set_option maxRecDepth 100000 in
theorem zq_340 : [zz_cw zt_hh zm_340, Cond.initialized zm_340.1.1.cls].map some = ([2429, 227] : List Nat).map (fun i => lw_tbl[i]?) := by rfl
set_option maxRecDepth 100000 in
theorem zg_340 : [zz_cw zt_hh zm_340, Cond.initialized zm_340.1.1.cls].all goodWord = true := by decide +kernel
set_option maxRecDepth 100000 in
theorem zb_340 : (plainName zm_340.1.1.cls && (decide (zm_340.1.1.cls ≠ "java/lang/invoke/MethodHandle" ∧ zm_340.1.1.cls ≠ "java/lang/invoke/VarHandle") && decide (zm_340.1.2.2.1 ≤ 40))) = true := by decide +kernel
theorem zo_340 : zz_okM zt_hh zp_P zt_cl zt_tf zt_fd zt_nf zt_T zt_N zm_340 := zz_w_okM zw_340 zb_340 (zz_places goodWord zq_340 zg_340)
set_option maxRecDepth 100000 in
theorem zd_341_0 : ∀ r ∈ zl_341_0, decode zm_341.1.2.1 r.1 = .ok (r.2.1, r.2.2.1) := by decide +kernel
set_option maxRecDepth 100000 in
theorem zq_341_0 : (zl_341_0.flatMap (zz_wr zt_hh zp_P zt_cl zm_341.1.1.cls)).map some = ([2300, 160, 2298, 1839] : List Nat).map (fun i => lw_tbl[i]?) := by rfl
set_option maxRecDepth 100000 in
theorem zg_341_0 : (zl_341_0.flatMap (zz_wr zt_hh zp_P zt_cl zm_341.1.1.cls)).all goodWord = true := by decide +kernel
set_option maxRecDepth 100000 in
theorem zr_341_0 : (zl_341_0.flatMap (zz_wn zp_P zm_341.1.1.cls)).map some = ([] : List Nat).map (fun i => lw_tbl[i]?) := by rfl
set_option maxRecDepth 100000 in
theorem zs_341_0 : (zl_341_0.flatMap (zz_wn zp_P zm_341.1.1.cls)).all zz_isN = true := by decide +kernel
set_option maxRecDepth 100000 in
theorem zb_341_0 : zl_341_0.all (fun r => zz_wb zt_hh zp_P zt_cl zt_tf zt_fd zt_nf zm_341.1.1.cls zm_341.1.1.name r) = true := by decide +kernel
set_option maxRecDepth 100000 in
theorem zy_341_0 : zl_341_0.all (fun r => zz_tb zt_hh zp_P zm_341 r) = true := by decide +kernel
theorem zw_341 : zz_okW zt_hh zp_P zt_cl zt_tf zt_fd zt_nf zt_T zt_N zm_341 := List.forall_mem_cons.mpr ⟨(zz_w_okL zd_341_0 zb_341_0 (zz_places goodWord zq_341_0 zg_341_0) (zz_places zz_isN zr_341_0 zs_341_0) zy_341_0), (fun _ h => absurd h List.not_mem_nil)⟩
set_option maxRecDepth 100000 in
theorem zq_341 : [zz_cw zt_hh zm_341, Cond.initialized zm_341.1.1.cls].map some = ([2433, 227] : List Nat).map (fun i => lw_tbl[i]?) := by rfl
set_option maxRecDepth 100000 in
theorem zg_341 : [zz_cw zt_hh zm_341, Cond.initialized zm_341.1.1.cls].all goodWord = true := by decide +kernel
set_option maxRecDepth 100000 in
theorem zb_341 : (plainName zm_341.1.1.cls && (decide (zm_341.1.1.cls ≠ "java/lang/invoke/MethodHandle" ∧ zm_341.1.1.cls ≠ "java/lang/invoke/VarHandle") && decide (zm_341.1.2.2.1 ≤ 40))) = true := by decide +kernel
theorem zo_341 : zz_okM zt_hh zp_P zt_cl zt_tf zt_fd zt_nf zt_T zt_N zm_341 := zz_w_okM zw_341 zb_341 (zz_places goodWord zq_341 zg_341)
set_option maxRecDepth 100000 in
theorem zd_342_0 : ∀ r ∈ zl_342_0, decode zm_342.1.2.1 r.1 = .ok (r.2.1, r.2.2.1) := by decide +kernel
set_option maxRecDepth 100000 in
theorem zq_342_0 : (zl_342_0.flatMap (zz_wr zt_hh zp_P zt_cl zm_342.1.1.cls)).map some = ([2300, 160, 2298, 2376, 1862, 2261, 151, 2259, 1843, 2300, 160, 2298] : List Nat).map (fun i => lw_tbl[i]?) := by rfl
set_option maxRecDepth 100000 in
theorem zg_342_0 : (zl_342_0.flatMap (zz_wr zt_hh zp_P zt_cl zm_342.1.1.cls)).all goodWord = true := by decide +kernel
set_option maxRecDepth 100000 in
theorem zr_342_0 : (zl_342_0.flatMap (zz_wn zp_P zm_342.1.1.cls)).map some = ([] : List Nat).map (fun i => lw_tbl[i]?) := by rfl
set_option maxRecDepth 100000 in
theorem zs_342_0 : (zl_342_0.flatMap (zz_wn zp_P zm_342.1.1.cls)).all zz_isN = true := by decide +kernel
set_option maxRecDepth 100000 in
theorem zb_342_0 : zl_342_0.all (fun r => zz_wb zt_hh zp_P zt_cl zt_tf zt_fd zt_nf zm_342.1.1.cls zm_342.1.1.name r) = true := by decide +kernel
set_option maxRecDepth 100000 in
theorem zd_342_1 : ∀ r ∈ zl_342_1, decode zm_342.1.2.1 r.1 = .ok (r.2.1, r.2.2.1) := by decide +kernel
set_option maxRecDepth 100000 in
theorem zq_342_1 : (zl_342_1.flatMap (zz_wr zt_hh zp_P zt_cl zm_342.1.1.cls)).map some = ([2316, 164, 2314, 1843, 2300, 160, 2298, 1839, 2273, 154, 2271, 2340, 170, 2338] : List Nat).map (fun i => lw_tbl[i]?) := by rfl
set_option maxRecDepth 100000 in
theorem zg_342_1 : (zl_342_1.flatMap (zz_wr zt_hh zp_P zt_cl zm_342.1.1.cls)).all goodWord = true := by decide +kernel
set_option maxRecDepth 100000 in
theorem zr_342_1 : (zl_342_1.flatMap (zz_wn zp_P zm_342.1.1.cls)).map some = ([] : List Nat).map (fun i => lw_tbl[i]?) := by rfl
set_option maxRecDepth 100000 in
theorem zs_342_1 : (zl_342_1.flatMap (zz_wn zp_P zm_342.1.1.cls)).all zz_isN = true := by decide +kernel
set_option maxRecDepth 100000 in
theorem zb_342_1 : zl_342_1.all (fun r => zz_wb zt_hh zp_P zt_cl zt_tf zt_fd zt_nf zm_342.1.1.cls zm_342.1.1.name r) = true := by decide +kernel
set_option maxRecDepth 100000 in
theorem zd_342_2 : ∀ r ∈ zl_342_2, decode zm_342.1.2.1 r.1 = .ok (r.2.1, r.2.2.1) := by decide +kernel
set_option maxRecDepth 100000 in
theorem zq_342_2 : (zl_342_2.flatMap (zz_wr zt_hh zp_P zt_cl zm_342.1.1.cls)).map some = ([2304, 161, 2302] : List Nat).map (fun i => lw_tbl[i]?) := by rfl
set_option maxRecDepth 100000 in
theorem zg_342_2 : (zl_342_2.flatMap (zz_wr zt_hh zp_P zt_cl zm_342.1.1.cls)).all goodWord = true := by decide +kernel
set_option maxRecDepth 100000 in
theorem zr_342_2 : (zl_342_2.flatMap (zz_wn zp_P zm_342.1.1.cls)).map some = ([] : List Nat).map (fun i => lw_tbl[i]?) := by rfl
set_option maxRecDepth 100000 in
theorem zs_342_2 : (zl_342_2.flatMap (zz_wn zp_P zm_342.1.1.cls)).all zz_isN = true := by decide +kernel
set_option maxRecDepth 100000 in
theorem zb_342_2 : zl_342_2.all (fun r => zz_wb zt_hh zp_P zt_cl zt_tf zt_fd zt_nf zm_342.1.1.cls zm_342.1.1.name r) = true := by decide +kernel
set_option maxRecDepth 100000 in
theorem zy_342_0 : zl_342_0.all (fun r => zz_tb zt_hh zp_P zm_342 r) = true := by decide +kernel
set_option maxRecDepth 100000 in
theorem zy_342_1 : zl_342_1.all (fun r => zz_tb zt_hh zp_P zm_342 r) = true := by decide +kernel
set_option maxRecDepth 100000 in
theorem zy_342_2 : zl_342_2.all (fun r => zz_tb zt_hh zp_P zm_342 r) = true := by decide +kernel
theorem zw_342 : zz_okW zt_hh zp_P zt_cl zt_tf zt_fd zt_nf zt_T zt_N zm_342 := List.forall_mem_cons.mpr ⟨(zz_w_okL zd_342_0 zb_342_0 (zz_places goodWord zq_342_0 zg_342_0) (zz_places zz_isN zr_342_0 zs_342_0) zy_342_0), List.forall_mem_cons.mpr ⟨(zz_w_okL zd_342_1 zb_342_1 (zz_places goodWord zq_342_1 zg_342_1) (zz_places zz_isN zr_342_1 zs_342_1) zy_342_1), List.forall_mem_cons.mpr ⟨(zz_w_okL zd_342_2 zb_342_2 (zz_places goodWord zq_342_2 zg_342_2) (zz_places zz_isN zr_342_2 zs_342_2) zy_342_2), (fun _ h => absurd h List.not_mem_nil)⟩⟩⟩
set_option maxRecDepth 100000 in
theorem zq_342 : [zz_cw zt_hh zm_342, Cond.initialized zm_342.1.1.cls].map some = ([2437, 227] : List Nat).map (fun i => lw_tbl[i]?) := by rfl
set_option maxRecDepth 100000 in
theorem zg_342 : [zz_cw zt_hh zm_342, Cond.initialized zm_342.1.1.cls].all goodWord = true := by decide +kernel
set_option maxRecDepth 100000 in
theorem zb_342 : (plainName zm_342.1.1.cls && (decide (zm_342.1.1.cls ≠ "java/lang/invoke/MethodHandle" ∧ zm_342.1.1.cls ≠ "java/lang/invoke/VarHandle") && decide (zm_342.1.2.2.1 ≤ 40))) = true := by decide +kernel
theorem zo_342 : zz_okM zt_hh zp_P zt_cl zt_tf zt_fd zt_nf zt_T zt_N zm_342 := zz_w_okM zw_342 zb_342 (zz_places goodWord zq_342 zg_342)
set_option maxRecDepth 100000 in
theorem zd_343_0 : ∀ r ∈ zl_343_0, decode zm_343.1.2.1 r.1 = .ok (r.2.1, r.2.2.1) := by decide +kernel
set_option maxRecDepth 100000 in
theorem zq_343_0 : (zl_343_0.flatMap (zz_wr zt_hh zp_P zt_cl zm_343.1.1.cls)).map some = ([2300, 160, 2298, 2300, 160, 2298, 2300, 160, 2298, 1862, 2261, 151, 2259, 1843, 2300, 160, 2298, 1843, 2300, 160, 2298] : List Nat).map (fun i => lw_tbl[i]?) := by rfl
set_option maxRecDepth 100000 in
theorem zg_343_0 : (zl_343_0.flatMap (zz_wr zt_hh zp_P zt_cl zm_343.1.1.cls)).all goodWord = true := by decide +kernel
set_option maxRecDepth 100000 in
theorem zr_343_0 : (zl_343_0.flatMap (zz_wn zp_P zm_343.1.1.cls)).map some = ([] : List Nat).map (fun i => lw_tbl[i]?) := by rfl
set_option maxRecDepth 100000 in
theorem zs_343_0 : (zl_343_0.flatMap (zz_wn zp_P zm_343.1.1.cls)).all zz_isN = true := by decide +kernel
set_option maxRecDepth 100000 in
theorem zb_343_0 : zl_343_0.all (fun r => zz_wb zt_hh zp_P zt_cl zt_tf zt_fd zt_nf zm_343.1.1.cls zm_343.1.1.name r) = true := by decide +kernel
set_option maxRecDepth 100000 in
theorem zd_343_1 : ∀ r ∈ zl_343_1, decode zm_343.1.2.1 r.1 = .ok (r.2.1, r.2.2.1) := by decide +kernel
set_option maxRecDepth 100000 in
theorem zq_343_1 : (zl_343_1.flatMap (zz_wr zt_hh zp_P zt_cl zm_343.1.1.cls)).map some = ([1839, 1839, 2273, 154, 2271, 2340, 170, 2338, 2304, 161, 2302] : List Nat).map (fun i => lw_tbl[i]?) := by rfl
set_option maxRecDepth 100000 in
theorem zg_343_1 : (zl_343_1.flatMap (zz_wr zt_hh zp_P zt_cl zm_343.1.1.cls)).all goodWord = true := by decide +kernel
set_option maxRecDepth 100000 in
theorem zr_343_1 : (zl_343_1.flatMap (zz_wn zp_P zm_343.1.1.cls)).map some = ([] : List Nat).map (fun i => lw_tbl[i]?) := by rfl
set_option maxRecDepth 100000 in
theorem zs_343_1 : (zl_343_1.flatMap (zz_wn zp_P zm_343.1.1.cls)).all zz_isN = true := by decide +kernel
set_option maxRecDepth 100000 in
theorem zb_343_1 : zl_343_1.all (fun r => zz_wb zt_hh zp_P zt_cl zt_tf zt_fd zt_nf zm_343.1.1.cls zm_343.1.1.name r) = true := by decide +kernel
set_option maxRecDepth 100000 in
theorem zy_343_0 : zl_343_0.all (fun r => zz_tb zt_hh zp_P zm_343 r) = true := by decide +kernel
set_option maxRecDepth 100000 in
theorem zy_343_1 : zl_343_1.all (fun r => zz_tb zt_hh zp_P zm_343 r) = true := by decide +kernel
theorem zw_343 : zz_okW zt_hh zp_P zt_cl zt_tf zt_fd zt_nf zt_T zt_N zm_343 := List.forall_mem_cons.mpr ⟨(zz_w_okL zd_343_0 zb_343_0 (zz_places goodWord zq_343_0 zg_343_0) (zz_places zz_isN zr_343_0 zs_343_0) zy_343_0), List.forall_mem_cons.mpr ⟨(zz_w_okL zd_343_1 zb_343_1 (zz_places goodWord zq_343_1 zg_343_1) (zz_places zz_isN zr_343_1 zs_343_1) zy_343_1), (fun _ h => absurd h List.not_mem_nil)⟩⟩
set_option maxRecDepth 100000 in
theorem zq_343 : [zz_cw zt_hh zm_343, Cond.initialized zm_343.1.1.cls].map some = ([2441, 227] : List Nat).map (fun i => lw_tbl[i]?) := by rfl
set_option maxRecDepth 100000 in
theorem zg_343 : [zz_cw zt_hh zm_343, Cond.initialized zm_343.1.1.cls].all goodWord = true := by decide +kernel
set_option maxRecDepth 100000 in
theorem zb_343 : (plainName zm_343.1.1.cls && (decide (zm_343.1.1.cls ≠ "java/lang/invoke/MethodHandle" ∧ zm_343.1.1.cls ≠ "java/lang/invoke/VarHandle") && decide (zm_343.1.2.2.1 ≤ 40))) = true := by decide +kernel
theorem zo_343 : zz_okM zt_hh zp_P zt_cl zt_tf zt_fd zt_nf zt_T zt_N zm_343 := zz_w_okM zw_343 zb_343 (zz_places goodWord zq_343 zg_343)
set_option maxRecDepth 100000 in
theorem zd_344_0 : ∀ r ∈ zl_344_0, decode zm_344.1.2.1 r.1 = .ok (r.2.1, r.2.2.1) := by decide +kernel
set_option maxRecDepth 100000 in
theorem zq_344_0 : (zl_344_0.flatMap (zz_wr zt_hh zp_P zt_cl zm_344.1.1.cls)).map some = ([2300, 160, 2298, 2300, 160, 2298, 2300, 160, 2298, 1839, 1839] : List Nat).map (fun i => lw_tbl[i]?) := by rfl
set_option maxRecDepth 100000 in
theorem zg_344_0 : (zl_344_0.flatMap (zz_wr zt_hh zp_P zt_cl zm_344.1.1.cls)).all goodWord = true := by decide +kernel
set_option maxRecDepth 100000 in
theorem zr_344_0 : (zl_344_0.flatMap (zz_wn zp_P zm_344.1.1.cls)).map some = ([] : List Nat).map (fun i => lw_tbl[i]?) := by rfl
set_option maxRecDepth 100000 in
theorem zs_344_0 : (zl_344_0.flatMap (zz_wn zp_P zm_344.1.1.cls)).all zz_isN = true := by decide +kernel
set_option maxRecDepth 100000 in
theorem zb_344_0 : zl_344_0.all (fun r => zz_wb zt_hh zp_P zt_cl zt_tf zt_fd zt_nf zm_344.1.1.cls zm_344.1.1.name r) = true := by decide +kernel
set_option maxRecDepth 100000 in
theorem zd_344_1 : ∀ r ∈ zl_344_1, decode zm_344.1.2.1 r.1 = .ok (r.2.1, r.2.2.1) := by decide +kernel
set_option maxRecDepth 100000 in
theorem zq_344_1 : (zl_344_1.flatMap (zz_wr zt_hh zp_P zt_cl zm_344.1.1.cls)).map some = ([] : List Nat).map (fun i => lw_tbl[i]?) := by rfl
set_option maxRecDepth 100000 in
theorem zg_344_1 : (zl_344_1.flatMap (zz_wr zt_hh zp_P zt_cl zm_344.1.1.cls)).all goodWord = true := by decide +kernel
set_option maxRecDepth 100000 in
theorem zr_344_1 : (zl_344_1.flatMap (zz_wn zp_P zm_344.1.1.cls)).map some = ([] : List Nat).map (fun i => lw_tbl[i]?) := by rfl
set_option maxRecDepth 100000 in
theorem zs_344_1 : (zl_344_1.flatMap (zz_wn zp_P zm_344.1.1.cls)).all zz_isN = true := by decide +kernel
set_option maxRecDepth 100000 in
theorem zb_344_1 : zl_344_1.all (fun r => zz_wb zt_hh zp_P zt_cl zt_tf zt_fd zt_nf zm_344.1.1.cls zm_344.1.1.name r) = true := by decide +kernel
set_option maxRecDepth 100000 in
theorem zy_344_0 : zl_344_0.all (fun r => zz_tb zt_hh zp_P zm_344 r) = true := by decide +kernel
set_option maxRecDepth 100000 in
theorem zy_344_1 : zl_344_1.all (fun r => zz_tb zt_hh zp_P zm_344 r) = true := by decide +kernel
theorem zw_344 : zz_okW zt_hh zp_P zt_cl zt_tf zt_fd zt_nf zt_T zt_N zm_344 := List.forall_mem_cons.mpr ⟨(zz_w_okL zd_344_0 zb_344_0 (zz_places goodWord zq_344_0 zg_344_0) (zz_places zz_isN zr_344_0 zs_344_0) zy_344_0), List.forall_mem_cons.mpr ⟨(zz_w_okL zd_344_1 zb_344_1 (zz_places goodWord zq_344_1 zg_344_1) (zz_places zz_isN zr_344_1 zs_344_1) zy_344_1), (fun _ h => absurd h List.not_mem_nil)⟩⟩
set_option maxRecDepth 100000 in
theorem zq_344 : [zz_cw zt_hh zm_344, Cond.initialized zm_344.1.1.cls].map some = ([2453, 227] : List Nat).map (fun i => lw_tbl[i]?) := by rfl
set_option maxRecDepth 100000 in
theorem zg_344 : [zz_cw zt_hh zm_344, Cond.initialized zm_344.1.1.cls].all goodWord = true := by decide +kernel
set_option maxRecDepth 100000 in
theorem zb_344 : (plainName zm_344.1.1.cls && (decide (zm_344.1.1.cls ≠ "java/lang/invoke/MethodHandle" ∧ zm_344.1.1.cls ≠ "java/lang/invoke/VarHandle") && decide (zm_344.1.2.2.1 ≤ 40))) = true := by decide +kernel
theorem zo_344 : zz_okM zt_hh zp_P zt_cl zt_tf zt_fd zt_nf zt_T zt_N zm_344 := zz_w_okM zw_344 zb_344 (zz_places goodWord zq_344 zg_344)
set_option maxRecDepth 100000 in
theorem zd_345_0 : ∀ r ∈ zl_345_0, decode zm_345.1.2.1 r.1 = .ok (r.2.1, r.2.2.1) := by decide +kernel
set_option maxRecDepth 100000 in
theorem zq_345_0 : (zl_345_0.flatMap (zz_wr zt_hh zp_P zt_cl zm_345.1.1.cls)).map some = ([1839, 2452, 195, 2450, 2300, 160, 2298, 2300, 160, 2298, 2300, 160, 2298, 2316, 164, 2314, 2316, 164, 2314] : List Nat).map (fun i => lw_tbl[i]?) := by rfl
set_option maxRecDepth 100000 in
theorem zg_345_0 : (zl_345_0.flatMap (zz_wr zt_hh zp_P zt_cl zm_345.1.1.cls)).all goodWord = true := by decide +kernel
set_option maxRecDepth 100000 in
theorem zr_345_0 : (zl_345_0.flatMap (zz_wn zp_P zm_345.1.1.cls)).map some = ([] : List Nat).map (fun i => lw_tbl[i]?) := by rfl
set_option maxRecDepth 100000 in
theorem zs_345_0 : (zl_345_0.flatMap (zz_wn zp_P zm_345.1.1.cls)).all zz_isN = true := by decide +kernel
set_option maxRecDepth 100000 in
theorem zb_345_0 : zl_345_0.all (fun r => zz_wb zt_hh zp_P zt_cl zt_tf zt_fd zt_nf zm_345.1.1.cls zm_345.1.1.name r) = true := by decide +kernel
set_option maxRecDepth 100000 in
theorem zd_345_1 : ∀ r ∈ zl_345_1, decode zm_345.1.2.1 r.1 = .ok (r.2.1, r.2.2.1) := by decide +kernel
set_option maxRecDepth 100000 in
theorem zq_345_1 : (zl_345_1.flatMap (zz_wr zt_hh zp_P zt_cl zm_345.1.1.cls)).map some = ([2452, 195, 2450] : List Nat).map (fun i => lw_tbl[i]?) := by rfl
set_option maxRecDepth 100000 in
theorem zg_345_1 : (zl_345_1.flatMap (zz_wr zt_hh zp_P zt_cl zm_345.1.1.cls)).all goodWord = true := by decide +kernel
set_option maxRecDepth 100000 in
theorem zr_345_1 : (zl_345_1.flatMap (zz_wn zp_P zm_345.1.1.cls)).map some = ([] : List Nat).map (fun i => lw_tbl[i]?) := by rfl
set_option maxRecDepth 100000 in
theorem zs_345_1 : (zl_345_1.flatMap (zz_wn zp_P zm_345.1.1.cls)).all zz_isN = true := by decide +kernel
set_option maxRecDepth 100000 in
theorem zb_345_1 : zl_345_1.all (fun r => zz_wb zt_hh zp_P zt_cl zt_tf zt_fd zt_nf zm_345.1.1.cls zm_345.1.1.name r) = true := by decide +kernel
set_option maxRecDepth 100000 in
theorem zy_345_0 : zl_345_0.all (fun r => zz_tb zt_hh zp_P zm_345 r) = true := by decide +kernel
set_option maxRecDepth 100000 in
theorem zy_345_1 : zl_345_1.all (fun r => zz_tb zt_hh zp_P zm_345 r) = true := by decide +kernel
theorem zw_345 : zz_okW zt_hh zp_P zt_cl zt_tf zt_fd zt_nf zt_T zt_N zm_345 := List.forall_mem_cons.mpr ⟨(zz_w_okL zd_345_0 zb_345_0 (zz_places goodWord zq_345_0 zg_345_0) (zz_places zz_isN zr_345_0 zs_345_0) zy_345_0), List.forall_mem_cons.mpr ⟨(zz_w_okL zd_345_1 zb_345_1 (zz_places goodWord zq_345_1 zg_345_1) (zz_places zz_isN zr_345_1 zs_345_1) zy_345_1), (fun _ h => absurd h List.not_mem_nil)⟩⟩
set_option maxRecDepth 100000 in
theorem zq_345 : [zz_cw zt_hh zm_345, Cond.initialized zm_345.1.1.cls].map some = ([2449, 227] : List Nat).map (fun i => lw_tbl[i]?) := by rfl
set_option maxRecDepth 100000 in
theorem zg_345 : [zz_cw zt_hh zm_345, Cond.initialized zm_345.1.1.cls].all goodWord = true := by decide +kernel
set_option maxRecDepth 100000 in
theorem zb_345 : (plainName zm_345.1.1.cls && (decide (zm_345.1.1.cls ≠ "java/lang/invoke/MethodHandle" ∧ zm_345.1.1.cls ≠ "java/lang/invoke/VarHandle") && decide (zm_345.1.2.2.1 ≤ 40))) = true := by decide +kernel
theorem zo_345 : zz_okM zt_hh zp_P zt_cl zt_tf zt_fd zt_nf zt_T zt_N zm_345 := zz_w_okM zw_345 zb_345 (zz_places goodWord zq_345 zg_345)
set_option maxRecDepth 100000 in
theorem zd_346_0 : ∀ r ∈ zl_346_0, decode zm_346.1.2.1 r.1 = .ok (r.2.1, r.2.2.1) := by decide +kernel
set_option maxRecDepth 100000 in
theorem zq_346_0 : (zl_346_0.flatMap (zz_wr zt_hh zp_P zt_cl zm_346.1.1.cls)).map some = ([1839, 1839, 1839, 2448, 194, 2446, 2300, 160, 2298, 2300, 160, 2298, 1847, 2320, 165, 2318] : List Nat).map (fun i => lw_tbl[i]?) := by rfl
set_option maxRecDepth 100000 in
theorem zg_346_0 : (zl_346_0.flatMap (zz_wr zt_hh zp_P zt_cl zm_346.1.1.cls)).all goodWord = true := by decide +kernel
set_option maxRecDepth 100000 in
theorem zr_346_0 : (zl_346_0.flatMap (zz_wn zp_P zm_346.1.1.cls)).map some = ([] : List Nat).map (fun i => lw_tbl[i]?) := by rfl
set_option maxRecDepth 100000 in
theorem zs_346_0 : (zl_346_0.flatMap (zz_wn zp_P zm_346.1.1.cls)).all zz_isN = true := by decide +kernel
set_option maxRecDepth 100000 in
theorem zb_346_0 : zl_346_0.all (fun r => zz_wb zt_hh zp_P zt_cl zt_tf zt_fd zt_nf zm_346.1.1.cls zm_346.1.1.name r) = true := by decide +kernel
set_option maxRecDepth 100000 in
theorem zd_346_1 : ∀ r ∈ zl_346_1, decode zm_346.1.2.1 r.1 = .ok (r.2.1, r.2.2.1) := by decide +kernel
set_option maxRecDepth 100000 in
theorem zq_346_1 : (zl_346_1.flatMap (zz_wr zt_hh zp_P zt_cl zm_346.1.1.cls)).map some = ([1847, 1844, 1847, 1845, 1847, 1846, 1847, 2300, 160, 2298, 1847, 1847] : List Nat).map (fun i => lw_tbl[i]?) := by rfl
set_option maxRecDepth 100000 in
theorem zg_346_1 : (zl_346_1.flatMap (zz_wr zt_hh zp_P zt_cl zm_346.1.1.cls)).all goodWord = true := by decide +kernel
set_option maxRecDepth 100000 in
theorem zr_346_1 : (zl_346_1.flatMap (zz_wn zp_P zm_346.1.1.cls)).map some = ([] : List Nat).map (fun i => lw_tbl[i]?) := by rfl
set_option maxRecDepth 100000 in
theorem zs_346_1 : (zl_346_1.flatMap (zz_wn zp_P zm_346.1.1.cls)).all zz_isN = true := by decide +kernel
set_option maxRecDepth 100000 in
theorem zb_346_1 : zl_346_1.all (fun r => zz_wb zt_hh zp_P zt_cl zt_tf zt_fd zt_nf zm_346.1.1.cls zm_346.1.1.name r) = true := by decide +kernel
set_option maxRecDepth 100000 in
theorem zd_346_2 : ∀ r ∈ zl_346_2, decode zm_346.1.2.1 r.1 = .ok (r.2.1, r.2.2.1) := by decide +kernel
set_option maxRecDepth 100000 in
theorem zq_346_2 : (zl_346_2.flatMap (zz_wr zt_hh zp_P zt_cl zm_346.1.1.cls)).map some = ([1846, 1847, 2324, 166, 2322, 2324, 166, 2322, 2324, 166, 2322, 2324, 166, 2322, 1839] : List Nat).map (fun i => lw_tbl[i]?) := by rfl
set_option maxRecDepth 100000 in
theorem zg_346_2 : (zl_346_2.flatMap (zz_wr zt_hh zp_P zt_cl zm_346.1.1.cls)).all goodWord = true := by decide +kernel
set_option maxRecDepth 100000 in
theorem zr_346_2 : (zl_346_2.flatMap (zz_wn zp_P zm_346.1.1.cls)).map some = ([] : List Nat).map (fun i => lw_tbl[i]?) := by rfl
set_option maxRecDepth 100000 in
theorem zs_346_2 : (zl_346_2.flatMap (zz_wn zp_P zm_346.1.1.cls)).all zz_isN = true := by decide +kernel
set_option maxRecDepth 100000 in
theorem zb_346_2 : zl_346_2.all (fun r => zz_wb zt_hh zp_P zt_cl zt_tf zt_fd zt_nf zm_346.1.1.cls zm_346.1.1.name r) = true := by decide +kernel
set_option maxRecDepth 100000 in
theorem zd_346_3 : ∀ r ∈ zl_346_3, decode zm_346.1.2.1 r.1 = .ok (r.2.1, r.2.2.1) := by decide +kernel
set_option maxRecDepth 100000 in
theorem zq_346_3 : (zl_346_3.flatMap (zz_wr zt_hh zp_P zt_cl zm_346.1.1.cls)).map some = ([1839, 2316, 164, 2314, 2316, 164, 2314, 1839, 1839, 1839] : List Nat).map (fun i => lw_tbl[i]?) := by rfl
set_option maxRecDepth 100000 in
theorem zg_346_3 : (zl_346_3.flatMap (zz_wr zt_hh zp_P zt_cl zm_346.1.1.cls)).all goodWord = true := by decide +kernel
set_option maxRecDepth 100000 in
theorem zr_346_3 : (zl_346_3.flatMap (zz_wn zp_P zm_346.1.1.cls)).map some = ([] : List Nat).map (fun i => lw_tbl[i]?) := by rfl
set_option maxRecDepth 100000 in
theorem zs_346_3 : (zl_346_3.flatMap (zz_wn zp_P zm_346.1.1.cls)).all zz_isN = true := by decide +kernel
set_option maxRecDepth 100000 in
theorem zb_346_3 : zl_346_3.all (fun r => zz_wb zt_hh zp_P zt_cl zt_tf zt_fd zt_nf zm_346.1.1.cls zm_346.1.1.name r) = true := by decide +kernel
set_option maxRecDepth 100000 in
theorem zd_346_4 : ∀ r ∈ zl_346_4, decode zm_346.1.2.1 r.1 = .ok (r.2.1, r.2.2.1) := by decide +kernel
set_option maxRecDepth 100000 in
theorem zq_346_4 : (zl_346_4.flatMap (zz_wr zt_hh zp_P zt_cl zm_346.1.1.cls)).map some = ([2300, 160, 2298, 2300, 160, 2298, 2448, 194, 2446, 1839, 2320, 165, 2318] : List Nat).map (fun i => lw_tbl[i]?) := by rfl
set_option maxRecDepth 100000 in
theorem zg_346_4 : (zl_346_4.flatMap (zz_wr zt_hh zp_P zt_cl zm_346.1.1.cls)).all goodWord = true := by decide +kernel
set_option maxRecDepth 100000 in
theorem zr_346_4 : (zl_346_4.flatMap (zz_wn zp_P zm_346.1.1.cls)).map some = ([] : List Nat).map (fun i => lw_tbl[i]?) := by rfl
set_option maxRecDepth 100000 in
theorem zs_346_4 : (zl_346_4.flatMap (zz_wn zp_P zm_346.1.1.cls)).all zz_isN = true := by decide +kernel
set_option maxRecDepth 100000 in
theorem zb_346_4 : zl_346_4.all (fun r => zz_wb zt_hh zp_P zt_cl zt_tf zt_fd zt_nf zm_346.1.1.cls zm_346.1.1.name r) = true := by decide +kernel
set_option maxRecDepth 100000 in
theorem zy_346_0 : zl_346_0.all (fun r => zz_tb zt_hh zp_P zm_346 r) = true := by decide +kernel
set_option maxRecDepth 100000 in
theorem zy_346_1 : zl_346_1.all (fun r => zz_tb zt_hh zp_P zm_346 r) = true := by decide +kernel
set_option maxRecDepth 100000 in
theorem zy_346_2 : zl_346_2.all (fun r => zz_tb zt_hh zp_P zm_346 r) = true := by decide +kernel
set_option maxRecDepth 100000 in
theorem zy_346_3 : zl_346_3.all (fun r => zz_tb zt_hh zp_P zm_346 r) = true := by decide +kernel
set_option maxRecDepth 100000 in
theorem zy_346_4 : zl_346_4.all (fun r => zz_tb zt_hh zp_P zm_346 r) = true := by decide +kernel
theorem zw_346 : zz_okW zt_hh zp_P zt_cl zt_tf zt_fd zt_nf zt_T zt_N zm_346 := List.forall_mem_cons.mpr ⟨(zz_w_okL zd_346_0 zb_346_0 (zz_places goodWord zq_346_0 zg_346_0) (zz_places zz_isN zr_346_0 zs_346_0) zy_346_0), List.forall_mem_cons.mpr ⟨(zz_w_okL zd_346_1 zb_346_1 (zz_places goodWord zq_346_1 zg_346_1) (zz_places zz_isN zr_346_1 zs_346_1) zy_346_1), List.forall_mem_cons.mpr ⟨(zz_w_okL zd_346_2 zb_346_2 (zz_places goodWord zq_346_2 zg_346_2) (zz_places zz_isN zr_346_2 zs_346_2) zy_346_2), List.forall_mem_cons.mpr ⟨(zz_w_okL zd_346_3 zb_346_3 (zz_places goodWord zq_346_3 zg_346_3) (zz_places zz_isN zr_346_3 zs_346_3) zy_346_3), List.forall_mem_cons.mpr ⟨(zz_w_okL zd_346_4 zb_346_4 (zz_places goodWord zq_346_4 zg_346_4) (zz_places zz_isN zr_346_4 zs_346_4) zy_346_4), (fun _ h => absurd h List.not_mem_nil)⟩⟩⟩⟩⟩
set_option maxRecDepth 100000 in
theorem zq_346 : [zz_cw zt_hh zm_346, Cond.initialized zm_346.1.1.cls].map some = ([2445, 227] : List Nat).map (fun i => lw_tbl[i]?) := by rfl
set_option maxRecDepth 100000 in
theorem zg_346 : [zz_cw zt_hh zm_346, Cond.initialized zm_346.1.1.cls].all goodWord = true := by decide +kernel
set_option maxRecDepth 100000 in
theorem zb_346 : (plainName zm_346.1.1.cls && (decide (zm_346.1.1.cls ≠ "java/lang/invoke/MethodHandle" ∧ zm_346.1.1.cls ≠ "java/lang/invoke/VarHandle") && decide (zm_346.1.2.2.1 ≤ 40))) = true := by decide +kernel
theorem zo_346 : zz_okM zt_hh zp_P zt_cl zt_tf zt_fd zt_nf zt_T zt_N zm_346 := zz_w_okM zw_346 zb_346 (zz_places goodWord zq_346 zg_346)
set_option maxRecDepth 100000 in
theorem zd_347_0 : ∀ r ∈ zl_347_0, decode zm_347.1.2.1 r.1 = .ok (r.2.1, r.2.2.1) := by decide +kernel
set_option maxRecDepth 100000 in
theorem zq_347_0 : (zl_347_0.flatMap (zz_wr zt_hh zp_P zt_cl zm_347.1.1.cls)).map some = ([2410, 185, 2408, 2418, 187, 2416, 2424, 188, 2422, 2428, 189, 2426, 2293, 159, 2291, 1843] : List Nat).map (fun i => lw_tbl[i]?) := by rfl
set_option maxRecDepth 100000 in
theorem zg_347_0 : (zl_347_0.flatMap (zz_wr zt_hh zp_P zt_cl zm_347.1.1.cls)).all goodWord = true := by decide +kernel
set_option maxRecDepth 100000 in
theorem zr_347_0 : (zl_347_0.flatMap (zz_wn zp_P zm_347.1.1.cls)).map some = ([] : List Nat).map (fun i => lw_tbl[i]?) := by rfl
set_option maxRecDepth 100000 in
theorem zs_347_0 : (zl_347_0.flatMap (zz_wn zp_P zm_347.1.1.cls)).all zz_isN = true := by decide +kernel
set_option maxRecDepth 100000 in
theorem zb_347_0 : zl_347_0.all (fun r => zz_wb zt_hh zp_P zt_cl zt_tf zt_fd zt_nf zm_347.1.1.cls zm_347.1.1.name r) = true := by decide +kernel
set_option maxRecDepth 100000 in
theorem zd_347_1 : ∀ r ∈ zl_347_1, decode zm_347.1.2.1 r.1 = .ok (r.2.1, r.2.2.1) := by decide +kernel
set_option maxRecDepth 100000 in
theorem zq_347_1 : (zl_347_1.flatMap (zz_wr zt_hh zp_P zt_cl zm_347.1.1.cls)).map some = ([2432, 190, 2430, 2273, 154, 2271, 2300, 160, 2298, 1839, 2432, 190, 2430, 2273, 154, 2271, 2304, 161, 2302, 2436, 191, 2434] : List Nat).map (fun i => lw_tbl[i]?) := by rfl
set_option maxRecDepth 100000 in
theorem zg_347_1 : (zl_347_1.flatMap (zz_wr zt_hh zp_P zt_cl zm_347.1.1.cls)).all goodWord = true := by decide +kernel
set_option maxRecDepth 100000 in
theorem zr_347_1 : (zl_347_1.flatMap (zz_wn zp_P zm_347.1.1.cls)).map some = ([] : List Nat).map (fun i => lw_tbl[i]?) := by rfl
set_option maxRecDepth 100000 in
theorem zs_347_1 : (zl_347_1.flatMap (zz_wn zp_P zm_347.1.1.cls)).all zz_isN = true := by decide +kernel
set_option maxRecDepth 100000 in
theorem zb_347_1 : zl_347_1.all (fun r => zz_wb zt_hh zp_P zt_cl zt_tf zt_fd zt_nf zm_347.1.1.cls zm_347.1.1.name r) = true := by decide +kernel
set_option maxRecDepth 100000 in
theorem zd_347_2 : ∀ r ∈ zl_347_2, decode zm_347.1.2.1 r.1 = .ok (r.2.1, r.2.2.1) := by decide +kernel
set_option maxRecDepth 100000 in
theorem zq_347_2 : (zl_347_2.flatMap (zz_wr zt_hh zp_P zt_cl zm_347.1.1.cls)).map some = ([2440, 192, 2438, 1841, 1841, 1841, 2444, 193, 2442, 1843] : List Nat).map (fun i => lw_tbl[i]?) := by rfl
set_option maxRecDepth 100000 in
theorem zg_347_2 : (zl_347_2.flatMap (zz_wr zt_hh zp_P zt_cl zm_347.1.1.cls)).all goodWord = true := by decide +kernel
set_option maxRecDepth 100000 in
theorem zr_347_2 : (zl_347_2.flatMap (zz_wn zp_P zm_347.1.1.cls)).map some = ([] : List Nat).map (fun i => lw_tbl[i]?) := by rfl
set_option maxRecDepth 100000 in
theorem zs_347_2 : (zl_347_2.flatMap (zz_wn zp_P zm_347.1.1.cls)).all zz_isN = true := by decide +kernel
set_option maxRecDepth 100000 in
theorem zb_347_2 : zl_347_2.all (fun r => zz_wb zt_hh zp_P zt_cl zt_tf zt_fd zt_nf zm_347.1.1.cls zm_347.1.1.name r) = true := by decide +kernel
set_option maxRecDepth 100000 in
theorem zd_347_3 : ∀ r ∈ zl_347_3, decode zm_347.1.2.1 r.1 = .ok (r.2.1, r.2.2.1) := by decide +kernel
set_option maxRecDepth 100000 in
theorem zq_347_3 : (zl_347_3.flatMap (zz_wr zt_hh zp_P zt_cl zm_347.1.1.cls)).map some = ([2273, 154, 2271] : List Nat).map (fun i => lw_tbl[i]?) := by rfl
set_option maxRecDepth 100000 in
theorem zg_347_3 : (zl_347_3.flatMap (zz_wr zt_hh zp_P zt_cl zm_347.1.1.cls)).all goodWord = true := by decide +kernel
set_option maxRecDepth 100000 in
theorem zr_347_3 : (zl_347_3.flatMap (zz_wn zp_P zm_347.1.1.cls)).map some = ([] : List Nat).map (fun i => lw_tbl[i]?) := by rfl
set_option maxRecDepth 100000 in
theorem zs_347_3 : (zl_347_3.flatMap (zz_wn zp_P zm_347.1.1.cls)).all zz_isN = true := by decide +kernel
set_option maxRecDepth 100000 in
theorem zb_347_3 : zl_347_3.all (fun r => zz_wb zt_hh zp_P zt_cl zt_tf zt_fd zt_nf zm_347.1.1.cls zm_347.1.1.name r) = true := by decide +kernel
set_option maxRecDepth 100000 in
theorem zy_347_0 : zl_347_0.all (fun r => zz_tb zt_hh zp_P zm_347 r) = true := by decide +kernel
set_option maxRecDepth 100000 in
theorem zy_347_1 : zl_347_1.all (fun r => zz_tb zt_hh zp_P zm_347 r) = true := by decide +kernel
set_option maxRecDepth 100000 in
theorem zy_347_2 : zl_347_2.all (fun r => zz_tb zt_hh zp_P zm_347 r) = true := by decide +kernel
set_option maxRecDepth 100000 in
theorem zy_347_3 : zl_347_3.all (fun r => zz_tb zt_hh zp_P zm_347 r) = true := by decide +kernel
theorem zw_347 : zz_okW zt_hh zp_P zt_cl zt_tf zt_fd zt_nf zt_T zt_N zm_347 := List.forall_mem_cons.mpr ⟨(zz_w_okL zd_347_0 zb_347_0 (zz_places goodWord zq_347_0 zg_347_0) (zz_places zz_isN zr_347_0 zs_347_0) zy_347_0), List.forall_mem_cons.mpr ⟨(zz_w_okL zd_347_1 zb_347_1 (zz_places goodWord zq_347_1 zg_347_1) (zz_places zz_isN zr_347_1 zs_347_1) zy_347_1), List.forall_mem_cons.mpr ⟨(zz_w_okL zd_347_2 zb_347_2 (zz_places goodWord zq_347_2 zg_347_2) (zz_places zz_isN zr_347_2 zs_347_2) zy_347_2), List.forall_mem_cons.mpr ⟨(zz_w_okL zd_347_3 zb_347_3 (zz_places goodWord zq_347_3 zg_347_3) (zz_places zz_isN zr_347_3 zs_347_3) zy_347_3), (fun _ h => absurd h List.not_mem_nil)⟩⟩⟩⟩
set_option maxRecDepth 100000 in
theorem zq_347 : [zz_cw zt_hh zm_347, Cond.initialized zm_347.1.1.cls].map some = ([2407, 227] : List Nat).map (fun i => lw_tbl[i]?) := by rfl
set_option maxRecDepth 100000 in
theorem zg_347 : [zz_cw zt_hh zm_347, Cond.initialized zm_347.1.1.cls].all goodWord = true := by decide +kernel
set_option maxRecDepth 100000 in
theorem zb_347 : (plainName zm_347.1.1.cls && (decide (zm_347.1.1.cls ≠ "java/lang/invoke/MethodHandle" ∧ zm_347.1.1.cls ≠ "java/lang/invoke/VarHandle") && decide (zm_347.1.2.2.1 ≤ 40))) = true := by decide +kernel
theorem zo_347 : zz_okM zt_hh zp_P zt_cl zt_tf zt_fd zt_nf zt_T zt_N zm_347 := zz_w_okM zw_347 zb_347 (zz_places goodWord zq_347 zg_347)
set_option maxRecDepth 100000 in
theorem zd_348_0 : ∀ r ∈ zl_348_0, decode zm_348.1.2.1 r.1 = .ok (r.2.1, r.2.2.1) := by decide +kernel
set_option maxRecDepth 100000 in
theorem zq_348_0 : (zl_348_0.flatMap (zz_wr zt_hh zp_P zt_cl zm_348.1.1.cls)).map some = ([1879, 1878, 1879, 1879, 1879] : List Nat).map (fun i => lw_tbl[i]?) := by rfl
set_option maxRecDepth 100000 in
theorem zg_348_0 : (zl_348_0.flatMap (zz_wr zt_hh zp_P zt_cl zm_348.1.1.cls)).all goodWord = true := by decide +kernel
set_option maxRecDepth 100000 in
theorem zr_348_0 : (zl_348_0.flatMap (zz_wn zp_P zm_348.1.1.cls)).map some = ([] : List Nat).map (fun i => lw_tbl[i]?) := by rfl
set_option maxRecDepth 100000 in
theorem zs_348_0 : (zl_348_0.flatMap (zz_wn zp_P zm_348.1.1.cls)).all zz_isN = true := by decide +kernel
set_option maxRecDepth 100000 in
theorem zb_348_0 : zl_348_0.all (fun r => zz_wb zt_hh zp_P zt_cl zt_tf zt_fd zt_nf zm_348.1.1.cls zm_348.1.1.name r) = true := by decide +kernel
set_option maxRecDepth 100000 in
theorem zy_348_0 : zl_348_0.all (fun r => zz_tb zt_hh zp_P zm_348 r) = true := by decide +kernel
theorem zw_348 : zz_okW zt_hh zp_P zt_cl zt_tf zt_fd zt_nf zt_T zt_N zm_348 := List.forall_mem_cons.mpr ⟨(zz_w_okL zd_348_0 zb_348_0 (zz_places goodWord zq_348_0 zg_348_0) (zz_places zz_isN zr_348_0 zs_348_0) zy_348_0), (fun _ h => absurd h List.not_mem_nil)⟩
set_option maxRecDepth 100000 in
theorem zq_348 : [zz_cw zt_hh zm_348, Cond.initialized zm_348.1.1.cls].map some = ([2485, 227] : List Nat).map (fun i => lw_tbl[i]?) := by rfl
set_option maxRecDepth 100000 in
theorem zg_348 : [zz_cw zt_hh zm_348, Cond.initialized zm_348.1.1.cls].all goodWord = true := by decide +kernel
set_option maxRecDepth 100000 in
theorem zb_348 : (plainName zm_348.1.1.cls && (decide (zm_348.1.1.cls ≠ "java/lang/invoke/MethodHandle" ∧ zm_348.1.1.cls ≠ "java/lang/invoke/VarHandle") && decide (zm_348.1.2.2.1 ≤ 40))) = true := by decide +kernel
theorem zo_348 : zz_okM zt_hh zp_P zt_cl zt_tf zt_fd zt_nf zt_T zt_N zm_348 := zz_w_okM zw_348 zb_348 (zz_places goodWord zq_348 zg_348)
set_option maxRecDepth 100000 in
theorem zd_349_0 : ∀ r ∈ zl_349_0, decode zm_349.1.2.1 r.1 = .ok (r.2.1, r.2.2.1) := by decide +kernel
set_option maxRecDepth 100000 in
theorem zq_349_0 : (zl_349_0.flatMap (zz_wr zt_hh zp_P zt_cl zm_349.1.1.cls)).map some = ([2484, 203, 2482, 2486, 2099, 2100, 2099, 2484, 203, 2482] : List Nat).map (fun i => lw_tbl[i]?) := by rfl
set_option maxRecDepth 100000 in
theorem zg_349_0 : (zl_349_0.flatMap (zz_wr zt_hh zp_P zt_cl zm_349.1.1.cls)).all goodWord = true := by decide +kernel
set_option maxRecDepth 100000 in
theorem zr_349_0 : (zl_349_0.flatMap (zz_wn zp_P zm_349.1.1.cls)).map some = ([] : List Nat).map (fun i => lw_tbl[i]?) := by rfl
set_option maxRecDepth 100000 in
theorem zs_349_0 : (zl_349_0.flatMap (zz_wn zp_P zm_349.1.1.cls)).all zz_isN = true := by decide +kernel
set_option maxRecDepth 100000 in
theorem zb_349_0 : zl_349_0.all (fun r => zz_wb zt_hh zp_P zt_cl zt_tf zt_fd zt_nf zm_349.1.1.cls zm_349.1.1.name r) = true := by decide +kernel
set_option maxRecDepth 100000 in
theorem zd_349_1 : ∀ r ∈ zl_349_1, decode zm_349.1.2.1 r.1 = .ok (r.2.1, r.2.2.1) := by decide +kernel
set_option maxRecDepth 100000 in
theorem zq_349_1 : (zl_349_1.flatMap (zz_wr zt_hh zp_P zt_cl zm_349.1.1.cls)).map some = ([2099] : List Nat).map (fun i => lw_tbl[i]?) := by rfl
set_option maxRecDepth 100000 in
theorem zg_349_1 : (zl_349_1.flatMap (zz_wr zt_hh zp_P zt_cl zm_349.1.1.cls)).all goodWord = true := by decide +kernel
set_option maxRecDepth 100000 in
theorem zr_349_1 : (zl_349_1.flatMap (zz_wn zp_P zm_349.1.1.cls)).map some = ([] : List Nat).map (fun i => lw_tbl[i]?) := by rfl
set_option maxRecDepth 100000 in
theorem zs_349_1 : (zl_349_1.flatMap (zz_wn zp_P zm_349.1.1.cls)).all zz_isN = true := by decide +kernel
set_option maxRecDepth 100000 in
theorem zb_349_1 : zl_349_1.all (fun r => zz_wb zt_hh zp_P zt_cl zt_tf zt_fd zt_nf zm_349.1.1.cls zm_349.1.1.name r) = true := by decide +kernel
set_option maxRecDepth 100000 in
theorem zy_349_0 : zl_349_0.all (fun r => zz_tb zt_hh zp_P zm_349 r) = true := by decide +kernel
set_option maxRecDepth 100000 in
theorem zy_349_1 : zl_349_1.all (fun r => zz_tb zt_hh zp_P zm_349 r) = true := by decide +kernel
theorem zw_349 : zz_okW zt_hh zp_P zt_cl zt_tf zt_fd zt_nf zt_T zt_N zm_349 := List.forall_mem_cons.mpr ⟨(zz_w_okL zd_349_0 zb_349_0 (zz_places goodWord zq_349_0 zg_349_0) (zz_places zz_isN zr_349_0 zs_349_0) zy_349_0), List.forall_mem_cons.mpr ⟨(zz_w_okL zd_349_1 zb_349_1 (zz_places goodWord zq_349_1 zg_349_1) (zz_places zz_isN zr_349_1 zs_349_1) zy_349_1), (fun _ h => absurd h List.not_mem_nil)⟩⟩
set_option maxRecDepth 100000 in
theorem zq_349 : [zz_cw zt_hh zm_349, Cond.initialized zm_349.1.1.cls].map some = ([2481, 227] : List Nat).map (fun i => lw_tbl[i]?) := by rfl
set_option maxRecDepth 100000 in
theorem zg_349 : [zz_cw zt_hh zm_349, Cond.initialized zm_349.1.1.cls].all goodWord = true := by decide +kernel
set_option maxRecDepth 100000 in
theorem zb_349 : (plainName zm_349.1.1.cls && (decide (zm_349.1.1.cls ≠ "java/lang/invoke/MethodHandle" ∧ zm_349.1.1.cls ≠ "java/lang/invoke/VarHandle") && decide (zm_349.1.2.2.1 ≤ 40))) = true := by decide +kernel
theorem zo_349 : zz_okM zt_hh zp_P zt_cl zt_tf zt_fd zt_nf zt_T zt_N zm_349 := zz_w_okM zw_349 zb_349 (zz_places goodWord zq_349 zg_349)
set_option maxRecDepth 100000 in
theorem zd_350_0 : ∀ r ∈ zl_350_0, decode zm_350.1.2.1 r.1 = .ok (r.2.1, r.2.2.1) := by decide +kernel
set_option maxRecDepth 100000 in
theorem zq_350_0 : (zl_350_0.flatMap (zz_wr zt_hh zp_P zt_cl zm_350.1.1.cls)).map some = ([2484, 203, 2482, 2300, 160, 2298, 2484, 203, 2482, 1839, 2480, 202, 2478, 2484, 203, 2482] : List Nat).map (fun i => lw_tbl[i]?) := by rfl
set_option maxRecDepth 100000 in
theorem zg_350_0 : (zl_350_0.flatMap (zz_wr zt_hh zp_P zt_cl zm_350.1.1.cls)).all goodWord = true := by decide +kernel
set_option maxRecDepth 100000 in
theorem zr_350_0 : (zl_350_0.flatMap (zz_wn zp_P zm_350.1.1.cls)).map some = ([] : List Nat).map (fun i => lw_tbl[i]?) := by rfl
set_option maxRecDepth 100000 in
theorem zs_350_0 : (zl_350_0.flatMap (zz_wn zp_P zm_350.1.1.cls)).all zz_isN = true := by decide +kernel
set_option maxRecDepth 100000 in
theorem zb_350_0 : zl_350_0.all (fun r => zz_wb zt_hh zp_P zt_cl zt_tf zt_fd zt_nf zm_350.1.1.cls zm_350.1.1.name r) = true := by decide +kernel
set_option maxRecDepth 100000 in
theorem zy_350_0 : zl_350_0.all (fun r => zz_tb zt_hh zp_P zm_350 r) = true := by decide +kernel
theorem zw_350 : zz_okW zt_hh zp_P zt_cl zt_tf zt_fd zt_nf zt_T zt_N zm_350 := List.forall_mem_cons.mpr ⟨(zz_w_okL zd_350_0 zb_350_0 (zz_places goodWord zq_350_0 zg_350_0) (zz_places zz_isN zr_350_0 zs_350_0) zy_350_0), (fun _ h => absurd h List.not_mem_nil)⟩
set_option maxRecDepth 100000 in
theorem zq_350 : [zz_cw zt_hh zm_350, Cond.initialized zm_350.1.1.cls].map some = ([2498, 227] : List Nat).map (fun i => lw_tbl[i]?) := by rfl
set_option maxRecDepth 100000 in
theorem zg_350 : [zz_cw zt_hh zm_350, Cond.initialized zm_350.1.1.cls].all goodWord = true := by decide +kernel
set_option maxRecDepth 100000 in
theorem zb_350 : (plainName zm_350.1.1.cls && (decide (zm_350.1.1.cls ≠ "java/lang/invoke/MethodHandle" ∧ zm_350.1.1.cls ≠ "java/lang/invoke/VarHandle") && decide (zm_350.1.2.2.1 ≤ 40))) = true := by decide +kernel
theorem zo_350 : zz_okM zt_hh zp_P zt_cl zt_tf zt_fd zt_nf zt_T zt_N zm_350 := zz_w_okM zw_350 zb_350 (zz_places goodWord zq_350 zg_350)
set_option maxRecDepth 100000 in
theorem zd_351_0 : ∀ r ∈ zl_351_0, decode zm_351.1.2.1 r.1 = .ok (r.2.1, r.2.2.1) := by decide +kernel
set_option maxRecDepth 100000 in
theorem zq_351_0 : (zl_351_0.flatMap (zz_wr zt_hh zp_P zt_cl zm_351.1.1.cls)).map some = ([1839, 2497, 206, 2495, 2484, 203, 2482, 2300, 160, 2298, 2316, 164, 2314, 2497, 206, 2495, 2484, 203, 2482] : List Nat).map (fun i => lw_tbl[i]?) := by rfl
set_option maxRecDepth 100000 in
theorem zg_351_0 : (zl_351_0.flatMap (zz_wr zt_hh zp_P zt_cl zm_351.1.1.cls)).all goodWord = true := by decide +kernel
set_option maxRecDepth 100000 in
theorem zr_351_0 : (zl_351_0.flatMap (zz_wn zp_P zm_351.1.1.cls)).map some = ([] : List Nat).map (fun i => lw_tbl[i]?) := by rfl
set_option maxRecDepth 100000 in
theorem zs_351_0 : (zl_351_0.flatMap (zz_wn zp_P zm_351.1.1.cls)).all zz_isN = true := by decide +kernel
set_option maxRecDepth 100000 in
theorem zb_351_0 : zl_351_0.all (fun r => zz_wb zt_hh zp_P zt_cl zt_tf zt_fd zt_nf zm_351.1.1.cls zm_351.1.1.name r) = true := by decide +kernel
set_option maxRecDepth 100000 in
theorem zy_351_0 : zl_351_0.all (fun r => zz_tb zt_hh zp_P zm_351 r) = true := by decide +kernel
theorem zw_351 : zz_okW zt_hh zp_P zt_cl zt_tf zt_fd zt_nf zt_T zt_N zm_351 := List.forall_mem_cons.mpr ⟨(zz_w_okL zd_351_0 zb_351_0 (zz_places goodWord zq_351_0 zg_351_0) (zz_places zz_isN zr_351_0 zs_351_0) zy_351_0), (fun _ h => absurd h List.not_mem_nil)⟩
set_option maxRecDepth 100000 in
theorem zq_351 : [zz_cw zt_hh zm_351, Cond.initialized zm_351.1.1.cls].map some = ([2494, 227] : List Nat).map (fun i => lw_tbl[i]?) := by rfl
set_option maxRecDepth 100000 in
theorem zg_351 : [zz_cw zt_hh zm_351, Cond.initialized zm_351.1.1.cls].all goodWord = true := by decide +kernel
set_option maxRecDepth 100000 in
theorem zb_351 : (plainName zm_351.1.1.cls && (decide (zm_351.1.1.cls ≠ "java/lang/invoke/MethodHandle" ∧ zm_351.1.1.cls ≠ "java/lang/invoke/VarHandle") && decide (zm_351.1.2.2.1 ≤ 40))) = true := by decide +kernel
theorem zo_351 : zz_okM zt_hh zp_P zt_cl zt_tf zt_fd zt_nf zt_T zt_N zm_351 := zz_w_okM zw_351 zb_351 (zz_places goodWord zq_351 zg_351)
set_option maxRecDepth 100000 in
theorem zd_352_0 : ∀ r ∈ zl_352_0, decode zm_352.1.2.1 r.1 = .ok (r.2.1, r.2.2.1) := by decide +kernel
set_option maxRecDepth 100000 in
theorem zq_352_0 : (zl_352_0.flatMap (zz_wr zt_hh zp_P zt_cl zm_352.1.1.cls)).map some = ([1839, 2493, 205, 2491, 2484, 203, 2482, 1847, 2320, 165, 2318, 1847, 1844, 1847, 1846, 1847] : List Nat).map (fun i => lw_tbl[i]?) := by rfl
set_option maxRecDepth 100000 in
theorem zg_352_0 : (zl_352_0.flatMap (zz_wr zt_hh zp_P zt_cl zm_352.1.1.cls)).all goodWord = true := by decide +kernel
set_option maxRecDepth 100000 in
theorem zr_352_0 : (zl_352_0.flatMap (zz_wn zp_P zm_352.1.1.cls)).map some = ([] : List Nat).map (fun i => lw_tbl[i]?) := by rfl
set_option maxRecDepth 100000 in
theorem zs_352_0 : (zl_352_0.flatMap (zz_wn zp_P zm_352.1.1.cls)).all zz_isN = true := by decide +kernel
set_option maxRecDepth 100000 in
theorem zb_352_0 : zl_352_0.all (fun r => zz_wb zt_hh zp_P zt_cl zt_tf zt_fd zt_nf zm_352.1.1.cls zm_352.1.1.name r) = true := by decide +kernel
set_option maxRecDepth 100000 in
theorem zd_352_1 : ∀ r ∈ zl_352_1, decode zm_352.1.2.1 r.1 = .ok (r.2.1, r.2.2.1) := by decide +kernel
set_option maxRecDepth 100000 in
theorem zq_352_1 : (zl_352_1.flatMap (zz_wr zt_hh zp_P zt_cl zm_352.1.1.cls)).map some = ([2300, 160, 2298, 2484, 203, 2482, 1847, 1847, 1846, 1847, 2484, 203, 2482, 2324, 166, 2322, 1839] : List Nat).map (fun i => lw_tbl[i]?) := by rfl
set_option maxRecDepth 100000 in
theorem zg_352_1 : (zl_352_1.flatMap (zz_wr zt_hh zp_P zt_cl zm_352.1.1.cls)).all goodWord = true := by decide +kernel
set_option maxRecDepth 100000 in
theorem zr_352_1 : (zl_352_1.flatMap (zz_wn zp_P zm_352.1.1.cls)).map some = ([] : List Nat).map (fun i => lw_tbl[i]?) := by rfl
set_option maxRecDepth 100000 in
theorem zs_352_1 : (zl_352_1.flatMap (zz_wn zp_P zm_352.1.1.cls)).all zz_isN = true := by decide +kernel
set_option maxRecDepth 100000 in
theorem zb_352_1 : zl_352_1.all (fun r => zz_wb zt_hh zp_P zt_cl zt_tf zt_fd zt_nf zm_352.1.1.cls zm_352.1.1.name r) = true := by decide +kernel
set_option maxRecDepth 100000 in
theorem zd_352_2 : ∀ r ∈ zl_352_2, decode zm_352.1.2.1 r.1 = .ok (r.2.1, r.2.2.1) := by decide +kernel
set_option maxRecDepth 100000 in
theorem zq_352_2 : (zl_352_2.flatMap (zz_wr zt_hh zp_P zt_cl zm_352.1.1.cls)).map some = ([2480, 202, 2478, 1839, 2316, 164, 2314, 2484, 203, 2482, 2316, 164, 2314, 2320, 165, 2318, 2316, 164, 2314, 2493, 205, 2491] : List Nat).map (fun i => lw_tbl[i]?) := by rfl
set_option maxRecDepth 100000 in
theorem zg_352_2 : (zl_352_2.flatMap (zz_wr zt_hh zp_P zt_cl zm_352.1.1.cls)).all goodWord = true := by decide +kernel
set_option maxRecDepth 100000 in
theorem zr_352_2 : (zl_352_2.flatMap (zz_wn zp_P zm_352.1.1.cls)).map some = ([] : List Nat).map (fun i => lw_tbl[i]?) := by rfl
set_option maxRecDepth 100000 in
theorem zs_352_2 : (zl_352_2.flatMap (zz_wn zp_P zm_352.1.1.cls)).all zz_isN = true := by decide +kernel
set_option maxRecDepth 100000 in
theorem zb_352_2 : zl_352_2.all (fun r => zz_wb zt_hh zp_P zt_cl zt_tf zt_fd zt_nf zm_352.1.1.cls zm_352.1.1.name r) = true := by decide +kernel
set_option maxRecDepth 100000 in
theorem zy_352_0 : zl_352_0.all (fun r => zz_tb zt_hh zp_P zm_352 r) = true := by decide +kernel
set_option maxRecDepth 100000 in
theorem zy_352_1 : zl_352_1.all (fun r => zz_tb zt_hh zp_P zm_352 r) = true := by decide +kernel
set_option maxRecDepth 100000 in
theorem zy_352_2 : zl_352_2.all (fun r => zz_tb zt_hh zp_P zm_352 r) = true := by decide +kernel
theorem zw_352 : zz_okW zt_hh zp_P zt_cl zt_tf zt_fd zt_nf zt_T zt_N zm_352 := List.forall_mem_cons.mpr ⟨(zz_w_okL zd_352_0 zb_352_0 (zz_places goodWord zq_352_0 zg_352_0) (zz_places zz_isN zr_352_0 zs_352_0) zy_352_0), List.forall_mem_cons.mpr ⟨(zz_w_okL zd_352_1 zb_352_1 (zz_places goodWord zq_352_1 zg_352_1) (zz_places zz_isN zr_352_1 zs_352_1) zy_352_1), List.forall_mem_cons.mpr ⟨(zz_w_okL zd_352_2 zb_352_2 (zz_places goodWord zq_352_2 zg_352_2) (zz_places zz_isN zr_352_2 zs_352_2) zy_352_2), (fun _ h => absurd h List.not_mem_nil)⟩⟩⟩
set_option maxRecDepth 100000 in
theorem zq_352 : [zz_cw zt_hh zm_352, Cond.initialized zm_352.1.1.cls].map some = ([2490, 227] : List Nat).map (fun i => lw_tbl[i]?) := by rfl
set_option maxRecDepth 100000 in
theorem zg_352 : [zz_cw zt_hh zm_352, Cond.initialized zm_352.1.1.cls].all goodWord = true := by decide +kernel
set_option maxRecDepth 100000 in
theorem zb_352 : (plainName zm_352.1.1.cls && (decide (zm_352.1.1.cls ≠ "java/lang/invoke/MethodHandle" ∧ zm_352.1.1.cls ≠ "java/lang/invoke/VarHandle") && decide (zm_352.1.2.2.1 ≤ 40))) = true := by decide +kernel
theorem zo_352 : zz_okM zt_hh zp_P zt_cl zt_tf zt_fd zt_nf zt_T zt_N zm_352 := zz_w_okM zw_352 zb_352 (zz_places goodWord zq_352 zg_352)
set_option maxRecDepth 100000 in
theorem zd_353_0 : ∀ r ∈ zl_353_0, decode zm_353.1.2.1 r.1 = .ok (r.2.1, r.2.2.1) := by decide +kernel
set_option maxRecDepth 100000 in
theorem zq_353_0 : (zl_353_0.flatMap (zz_wr zt_hh zp_P zt_cl zm_353.1.1.cls)).map some = ([2300, 160, 2298, 2577, 211, 2575, 2300, 160, 2298, 1839, 2577, 211, 2575] : List Nat).map (fun i => lw_tbl[i]?) := by rfl
set_option maxRecDepth 100000 in
theorem zg_353_0 : (zl_353_0.flatMap (zz_wr zt_hh zp_P zt_cl zm_353.1.1.cls)).all goodWord = true := by decide +kernel
set_option maxRecDepth 100000 in
theorem zr_353_0 : (zl_353_0.flatMap (zz_wn zp_P zm_353.1.1.cls)).map some = ([] : List Nat).map (fun i => lw_tbl[i]?) := by rfl
set_option maxRecDepth 100000 in
theorem zs_353_0 : (zl_353_0.flatMap (zz_wn zp_P zm_353.1.1.cls)).all zz_isN = true := by decide +kernel
set_option maxRecDepth 100000 in
theorem zb_353_0 : zl_353_0.all (fun r => zz_wb zt_hh zp_P zt_cl zt_tf zt_fd zt_nf zm_353.1.1.cls zm_353.1.1.name r) = true := by decide +kernel
set_option maxRecDepth 100000 in
theorem zy_353_0 : zl_353_0.all (fun r => zz_tb zt_hh zp_P zm_353 r) = true := by decide +kernel
theorem zw_353 : zz_okW zt_hh zp_P zt_cl zt_tf zt_fd zt_nf zt_T zt_N zm_353 := List.forall_mem_cons.mpr ⟨(zz_w_okL zd_353_0 zb_353_0 (zz_places goodWord zq_353_0 zg_353_0) (zz_places zz_isN zr_353_0 zs_353_0) zy_353_0), (fun _ h => absurd h List.not_mem_nil)⟩
set_option maxRecDepth 100000 in
theorem zq_353 : [zz_cw zt_hh zm_353, Cond.initialized zm_353.1.1.cls].map some = ([2591, 227] : List Nat).map (fun i => lw_tbl[i]?) := by rfl
set_option maxRecDepth 100000 in
theorem zg_353 : [zz_cw zt_hh zm_353, Cond.initialized zm_353.1.1.cls].all goodWord = true := by decide +kernel
set_option maxRecDepth 100000 in
theorem zb_353 : (plainName zm_353.1.1.cls && (decide (zm_353.1.1.cls ≠ "java/lang/invoke/MethodHandle" ∧ zm_353.1.1.cls ≠ "java/lang/invoke/VarHandle") && decide (zm_353.1.2.2.1 ≤ 40))) = true := by decide +kernel
theorem zo_353 : zz_okM zt_hh zp_P zt_cl zt_tf zt_fd zt_nf zt_T zt_N zm_353 := zz_w_okM zw_353 zb_353 (zz_places goodWord zq_353 zg_353)
set_option maxRecDepth 100000 in
theorem zd_354_0 : ∀ r ∈ zl_354_0, decode zm_354.1.2.1 r.1 = .ok (r.2.1, r.2.2.1) := by decide +kernel
set_option maxRecDepth 100000 in
theorem zq_354_0 : (zl_354_0.flatMap (zz_wr zt_hh zp_P zt_cl zm_354.1.1.cls)).map some = ([1839, 2577, 211, 2575, 1839, 2590, 214, 2588, 2300, 160, 2298, 2577, 211, 2575, 2300, 160, 2298, 2316, 164, 2314, 2590, 214, 2588] : List Nat).map (fun i => lw_tbl[i]?) := by rfl
set_option maxRecDepth 100000 in
theorem zg_354_0 : (zl_354_0.flatMap (zz_wr zt_hh zp_P zt_cl zm_354.1.1.cls)).all goodWord = true := by decide +kernel
set_option maxRecDepth 100000 in
theorem zr_354_0 : (zl_354_0.flatMap (zz_wn zp_P zm_354.1.1.cls)).map some = ([] : List Nat).map (fun i => lw_tbl[i]?) := by rfl
set_option maxRecDepth 100000 in
theorem zs_354_0 : (zl_354_0.flatMap (zz_wn zp_P zm_354.1.1.cls)).all zz_isN = true := by decide +kernel
set_option maxRecDepth 100000 in
theorem zb_354_0 : zl_354_0.all (fun r => zz_wb zt_hh zp_P zt_cl zt_tf zt_fd zt_nf zm_354.1.1.cls zm_354.1.1.name r) = true := by decide +kernel
set_option maxRecDepth 100000 in
theorem zy_354_0 : zl_354_0.all (fun r => zz_tb zt_hh zp_P zm_354 r) = true := by decide +kernel
theorem zw_354 : zz_okW zt_hh zp_P zt_cl zt_tf zt_fd zt_nf zt_T zt_N zm_354 := List.forall_mem_cons.mpr ⟨(zz_w_okL zd_354_0 zb_354_0 (zz_places goodWord zq_354_0 zg_354_0) (zz_places zz_isN zr_354_0 zs_354_0) zy_354_0), (fun _ h => absurd h List.not_mem_nil)⟩
set_option maxRecDepth 100000 in
theorem zq_354 : [zz_cw zt_hh zm_354, Cond.initialized zm_354.1.1.cls].map some = ([2587, 227] : List Nat).map (fun i => lw_tbl[i]?) := by rfl
set_option maxRecDepth 100000 in
theorem zg_354 : [zz_cw zt_hh zm_354, Cond.initialized zm_354.1.1.cls].all goodWord = true := by decide +kernel
set_option maxRecDepth 100000 in
theorem zb_354 : (plainName zm_354.1.1.cls && (decide (zm_354.1.1.cls ≠ "java/lang/invoke/MethodHandle" ∧ zm_354.1.1.cls ≠ "java/lang/invoke/VarHandle") && decide (zm_354.1.2.2.1 ≤ 40))) = true := by decide +kernel
theorem zo_354 : zz_okM zt_hh zp_P zt_cl zt_tf zt_fd zt_nf zt_T zt_N zm_354 := zz_w_okM zw_354 zb_354 (zz_places goodWord zq_354 zg_354)
set_option maxRecDepth 100000 in
theorem zd_355_0 : ∀ r ∈ zl_355_0, decode zm_355.1.2.1 r.1 = .ok (r.2.1, r.2.2.1) := by decide +kernel
set_option maxRecDepth 100000 in
theorem zq_355_0 : (zl_355_0.flatMap (zz_wr zt_hh zp_P zt_cl zm_355.1.1.cls)).map some = ([1839, 2586, 213, 2584, 2577, 211, 2575, 2300, 160, 2298, 2577, 211, 2575, 1847, 2320, 165, 2318, 1847, 1844, 1847, 1846, 1847] : List Nat).map (fun i => lw_tbl[i]?) := by rfl
set_option maxRecDepth 100000 in
theorem zg_355_0 : (zl_355_0.flatMap (zz_wr zt_hh zp_P zt_cl zm_355.1.1.cls)).all goodWord = true := by decide +kernel
set_option maxRecDepth 100000 in
theorem zr_355_0 : (zl_355_0.flatMap (zz_wn zp_P zm_355.1.1.cls)).map some = ([] : List Nat).map (fun i => lw_tbl[i]?) := by rfl
set_option maxRecDepth 100000 in
theorem zs_355_0 : (zl_355_0.flatMap (zz_wn zp_P zm_355.1.1.cls)).all zz_isN = true := by decide +kernel
set_option maxRecDepth 100000 in
theorem zb_355_0 : zl_355_0.all (fun r => zz_wb zt_hh zp_P zt_cl zt_tf zt_fd zt_nf zm_355.1.1.cls zm_355.1.1.name r) = true := by decide +kernel
set_option maxRecDepth 100000 in
theorem zd_355_1 : ∀ r ∈ zl_355_1, decode zm_355.1.2.1 r.1 = .ok (r.2.1, r.2.2.1) := by decide +kernel
set_option maxRecDepth 100000 in
theorem zq_355_1 : (zl_355_1.flatMap (zz_wr zt_hh zp_P zt_cl zm_355.1.1.cls)).map some = ([2300, 160, 2298, 1847, 1847, 1846, 1847, 2324, 166, 2322, 2577, 211, 2575, 1839] : List Nat).map (fun i => lw_tbl[i]?) := by rfl
set_option maxRecDepth 100000 in
theorem zg_355_1 : (zl_355_1.flatMap (zz_wr zt_hh zp_P zt_cl zm_355.1.1.cls)).all goodWord = true := by decide +kernel
set_option maxRecDepth 100000 in
theorem zr_355_1 : (zl_355_1.flatMap (zz_wn zp_P zm_355.1.1.cls)).map some = ([] : List Nat).map (fun i => lw_tbl[i]?) := by rfl
set_option maxRecDepth 100000 in
theorem zs_355_1 : (zl_355_1.flatMap (zz_wn zp_P zm_355.1.1.cls)).all zz_isN = true := by decide +kernel
set_option maxRecDepth 100000 in
theorem zb_355_1 : zl_355_1.all (fun r => zz_wb zt_hh zp_P zt_cl zt_tf zt_fd zt_nf zm_355.1.1.cls zm_355.1.1.name r) = true := by decide +kernel
set_option maxRecDepth 100000 in
theorem zd_355_2 : ∀ r ∈ zl_355_2, decode zm_355.1.2.1 r.1 = .ok (r.2.1, r.2.2.1) := by decide +kernel
set_option maxRecDepth 100000 in
theorem zq_355_2 : (zl_355_2.flatMap (zz_wr zt_hh zp_P zt_cl zm_355.1.1.cls)).map some = ([2577, 211, 2575, 1839, 2316, 164, 2314, 2577, 211, 2575, 2316, 164, 2314, 2300, 160, 2298, 2577, 211, 2575, 2316, 164, 2314, 2320, 165, 2318] : List Nat).map (fun i => lw_tbl[i]?) := by rfl
set_option maxRecDepth 100000 in
theorem zg_355_2 : (zl_355_2.flatMap (zz_wr zt_hh zp_P zt_cl zm_355.1.1.cls)).all goodWord = true := by decide +kernel
set_option maxRecDepth 100000 in
theorem zr_355_2 : (zl_355_2.flatMap (zz_wn zp_P zm_355.1.1.cls)).map some = ([] : List Nat).map (fun i => lw_tbl[i]?) := by rfl
set_option maxRecDepth 100000 in
theorem zs_355_2 : (zl_355_2.flatMap (zz_wn zp_P zm_355.1.1.cls)).all zz_isN = true := by decide +kernel
set_option maxRecDepth 100000 in
theorem zb_355_2 : zl_355_2.all (fun r => zz_wb zt_hh zp_P zt_cl zt_tf zt_fd zt_nf zm_355.1.1.cls zm_355.1.1.name r) = true := by decide +kernel
set_option maxRecDepth 100000 in
theorem zd_355_3 : ∀ r ∈ zl_355_3, decode zm_355.1.2.1 r.1 = .ok (r.2.1, r.2.2.1) := by decide +kernel
set_option maxRecDepth 100000 in
theorem zq_355_3 : (zl_355_3.flatMap (zz_wr zt_hh zp_P zt_cl zm_355.1.1.cls)).map some = ([2316, 164, 2314, 2586, 213, 2584] : List Nat).map (fun i => lw_tbl[i]?) := by rfl
set_option maxRecDepth 100000 in
theorem zg_355_3 : (zl_355_3.flatMap (zz_wr zt_hh zp_P zt_cl zm_355.1.1.cls)).all goodWord = true := by decide +kernel
set_option maxRecDepth 100000 in
theorem zr_355_3 : (zl_355_3.flatMap (zz_wn zp_P zm_355.1.1.cls)).map some = ([] : List Nat).map (fun i => lw_tbl[i]?) := by rfl
set_option maxRecDepth 100000 in
theorem zs_355_3 : (zl_355_3.flatMap (zz_wn zp_P zm_355.1.1.cls)).all zz_isN = true := by decide +kernel
set_option maxRecDepth 100000 in
theorem zb_355_3 : zl_355_3.all (fun r => zz_wb zt_hh zp_P zt_cl zt_tf zt_fd zt_nf zm_355.1.1.cls zm_355.1.1.name r) = true := by decide +kernel
set_option maxRecDepth 100000 in
theorem zy_355_0 : zl_355_0.all (fun r => zz_tb zt_hh zp_P zm_355 r) = true := by decide +kernel
set_option maxRecDepth 100000 in
theorem zy_355_1 : zl_355_1.all (fun r => zz_tb zt_hh zp_P zm_355 r) = true := by decide +kernel
set_option maxRecDepth 100000 in
theorem zy_355_2 : zl_355_2.all (fun r => zz_tb zt_hh zp_P zm_355 r) = true := by decide +kernel
set_option maxRecDepth 100000 in
theorem zy_355_3 : zl_355_3.all (fun r => zz_tb zt_hh zp_P zm_355 r) = true := by decide +kernel
theorem zw_355 : zz_okW zt_hh zp_P zt_cl zt_tf zt_fd zt_nf zt_T zt_N zm_355 := List.forall_mem_cons.mpr ⟨(zz_w_okL zd_355_0 zb_355_0 (zz_places goodWord zq_355_0 zg_355_0) (zz_places zz_isN zr_355_0 zs_355_0) zy_355_0), List.forall_mem_cons.mpr ⟨(zz_w_okL zd_355_1 zb_355_1 (zz_places goodWord zq_355_1 zg_355_1) (zz_places zz_isN zr_355_1 zs_355_1) zy_355_1), List.forall_mem_cons.mpr ⟨(zz_w_okL zd_355_2 zb_355_2 (zz_places goodWord zq_355_2 zg_355_2) (zz_places zz_isN zr_355_2 zs_355_2) zy_355_2), List.forall_mem_cons.mpr ⟨(zz_w_okL zd_355_3 zb_355_3 (zz_places goodWord zq_355_3 zg_355_3) (zz_places zz_isN zr_355_3 zs_355_3) zy_355_3), (fun _ h => absurd h List.not_mem_nil)⟩⟩⟩⟩
set_option maxRecDepth 100000 in
theorem zq_355 : [zz_cw zt_hh zm_355, Cond.initialized zm_355.1.1.cls].map some = ([2583, 227] : List Nat).map (fun i => lw_tbl[i]?) := by rfl
set_option maxRecDepth 100000 in
theorem zg_355 : [zz_cw zt_hh zm_355, Cond.initialized zm_355.1.1.cls].all goodWord = true := by decide +kernel
set_option maxRecDepth 100000 in
theorem zb_355 : (plainName zm_355.1.1.cls && (decide (zm_355.1.1.cls ≠ "java/lang/invoke/MethodHandle" ∧ zm_355.1.1.cls ≠ "java/lang/invoke/VarHandle") && decide (zm_355.1.2.2.1 ≤ 40))) = true := by decide +kernel
theorem zo_355 : zz_okM zt_hh zp_P zt_cl zt_tf zt_fd zt_nf zt_T zt_N zm_355 := zz_w_okM zw_355 zb_355 (zz_places goodWord zq_355 zg_355)
set_option maxRecDepth 100000 in
theorem zd_356_0 : ∀ r ∈ zl_356_0, decode zm_356.1.2.1 r.1 = .ok (r.2.1, r.2.2.1) := by decide +kernel
set_option maxRecDepth 100000 in
theorem zq_356_0 : (zl_356_0.flatMap (zz_wr zt_hh zp_P zt_cl zm_356.1.1.cls)).map some = ([2599] : List Nat).map (fun i => lw_tbl[i]?) := by rfl
set_option maxRecDepth 100000 in
theorem zg_356_0 : (zl_356_0.flatMap (zz_wr zt_hh zp_P zt_cl zm_356.1.1.cls)).all goodWord = true := by decide +kernel
set_option maxRecDepth 100000 in
theorem zr_356_0 : (zl_356_0.flatMap (zz_wn zp_P zm_356.1.1.cls)).map some = ([] : List Nat).map (fun i => lw_tbl[i]?) := by rfl
set_option maxRecDepth 100000 in
theorem zs_356_0 : (zl_356_0.flatMap (zz_wn zp_P zm_356.1.1.cls)).all zz_isN = true := by decide +kernel
set_option maxRecDepth 100000 in
theorem zb_356_0 : zl_356_0.all (fun r => zz_wb zt_hh zp_P zt_cl zt_tf zt_fd zt_nf zm_356.1.1.cls zm_356.1.1.name r) = true := by decide +kernel
set_option maxRecDepth 100000 in
theorem zy_356_0 : zl_356_0.all (fun r => zz_tb zt_hh zp_P zm_356 r) = true := by decide +kernel
theorem zw_356 : zz_okW zt_hh zp_P zt_cl zt_tf zt_fd zt_nf zt_T zt_N zm_356 := List.forall_mem_cons.mpr ⟨(zz_w_okL zd_356_0 zb_356_0 (zz_places goodWord zq_356_0 zg_356_0) (zz_places zz_isN zr_356_0 zs_356_0) zy_356_0), (fun _ h => absurd h List.not_mem_nil)⟩
set_option maxRecDepth 100000 in
theorem zq_356 : [zz_cw zt_hh zm_356, Cond.initialized zm_356.1.1.cls].map some = ([991, 231] : List Nat).map (fun i => lw_tbl[i]?) := by rfl
set_option maxRecDepth 100000 in
theorem zg_356 : [zz_cw zt_hh zm_356, Cond.initialized zm_356.1.1.cls].all goodWord = true := by decide +kernel
set_option maxRecDepth 100000 in
theorem zb_356 : (plainName zm_356.1.1.cls && (decide (zm_356.1.1.cls ≠ "java/lang/invoke/MethodHandle" ∧ zm_356.1.1.cls ≠ "java/lang/invoke/VarHandle") && decide (zm_356.1.2.2.1 ≤ 40))) = true := by decide +kernel
theorem zo_356 : zz_okM zt_hh zp_P zt_cl zt_tf zt_fd zt_nf zt_T zt_N zm_356 := zz_w_okM zw_356 zb_356 (zz_places goodWord zq_356 zg_356)
set_option maxRecDepth 100000 in
theorem zd_357_0 : ∀ r ∈ zl_357_0, decode zm_357.1.2.1 r.1 = .ok (r.2.1, r.2.2.1) := by decide +kernel
set_option maxRecDepth 100000 in
theorem zq_357_0 : (zl_357_0.flatMap (zz_wr zt_hh zp_P zt_cl zm_357.1.1.cls)).map some = ([2595, 691, 692, 690] : List Nat).map (fun i => lw_tbl[i]?) := by rfl
set_option maxRecDepth 100000 in
theorem zg_357_0 : (zl_357_0.flatMap (zz_wr zt_hh zp_P zt_cl zm_357.1.1.cls)).all goodWord = true := by decide +kernel
set_option maxRecDepth 100000 in
theorem zr_357_0 : (zl_357_0.flatMap (zz_wn zp_P zm_357.1.1.cls)).map some = ([] : List Nat).map (fun i => lw_tbl[i]?) := by rfl
set_option maxRecDepth 100000 in
theorem zs_357_0 : (zl_357_0.flatMap (zz_wn zp_P zm_357.1.1.cls)).all zz_isN = true := by decide +kernel
set_option maxRecDepth 100000 in
theorem zb_357_0 : zl_357_0.all (fun r => zz_wb zt_hh zp_P zt_cl zt_tf zt_fd zt_nf zm_357.1.1.cls zm_357.1.1.name r) = true := by decide +kernel
set_option maxRecDepth 100000 in
theorem zy_357_0 : zl_357_0.all (fun r => zz_tb zt_hh zp_P zm_357 r) = true := by decide +kernel
theorem zw_357 : zz_okW zt_hh zp_P zt_cl zt_tf zt_fd zt_nf zt_T zt_N zm_357 := List.forall_mem_cons.mpr ⟨(zz_w_okL zd_357_0 zb_357_0 (zz_places goodWord zq_357_0 zg_357_0) (zz_places zz_isN zr_357_0 zs_357_0) zy_357_0), (fun _ h => absurd h List.not_mem_nil)⟩
set_option maxRecDepth 100000 in
theorem zq_357 : [zz_cw zt_hh zm_357, Cond.initialized zm_357.1.1.cls].map some = ([689, 233] : List Nat).map (fun i => lw_tbl[i]?) := by rfl
set_option maxRecDepth 100000 in
theorem zg_357 : [zz_cw zt_hh zm_357, Cond.initialized zm_357.1.1.cls].all goodWord = true := by decide +kernel
set_option maxRecDepth 100000 in
theorem zb_357 : (plainName zm_357.1.1.cls && (decide (zm_357.1.1.cls ≠ "java/lang/invoke/MethodHandle" ∧ zm_357.1.1.cls ≠ "java/lang/invoke/VarHandle") && decide (zm_357.1.2.2.1 ≤ 40))) = true := by decide +kernel
theorem zo_357 : zz_okM zt_hh zp_P zt_cl zt_tf zt_fd zt_nf zt_T zt_N zm_357 := zz_w_okM zw_357 zb_357 (zz_places goodWord zq_357 zg_357)
set_option maxRecDepth 100000 in
theorem zd_358_0 : ∀ r ∈ zl_358_0, decode zm_358.1.2.1 r.1 = .ok (r.2.1, r.2.2.1) := by decide +kernel
set_option maxRecDepth 100000 in
theorem zq_358_0 : (zl_358_0.flatMap (zz_wr zt_hh zp_P zt_cl zm_358.1.1.cls)).map some = ([684, 2594] : List Nat).map (fun i => lw_tbl[i]?) := by rfl
set_option maxRecDepth 100000 in
theorem zg_358_0 : (zl_358_0.flatMap (zz_wr zt_hh zp_P zt_cl zm_358.1.1.cls)).all goodWord = true := by decide +kernel
set_option maxRecDepth 100000 in
theorem zr_358_0 : (zl_358_0.flatMap (zz_wn zp_P zm_358.1.1.cls)).map some = ([] : List Nat).map (fun i => lw_tbl[i]?) := by rfl
set_option maxRecDepth 100000 in
theorem zs_358_0 : (zl_358_0.flatMap (zz_wn zp_P zm_358.1.1.cls)).all zz_isN = true := by decide +kernel
set_option maxRecDepth 100000 in
theorem zb_358_0 : zl_358_0.all (fun r => zz_wb zt_hh zp_P zt_cl zt_tf zt_fd zt_nf zm_358.1.1.cls zm_358.1.1.name r) = true := by decide +kernel
set_option maxRecDepth 100000 in
theorem zy_358_0 : zl_358_0.all (fun r => zz_tb zt_hh zp_P zm_358 r) = true := by decide +kernel
theorem zw_358 : zz_okW zt_hh zp_P zt_cl zt_tf zt_fd zt_nf zt_T zt_N zm_358 := List.forall_mem_cons.mpr ⟨(zz_w_okL zd_358_0 zb_358_0 (zz_places goodWord zq_358_0 zg_358_0) (zz_places zz_isN zr_358_0 zs_358_0) zy_358_0), (fun _ h => absurd h List.not_mem_nil)⟩
set_option maxRecDepth 100000 in
theorem zq_358 : [zz_cw zt_hh zm_358, Cond.initialized zm_358.1.1.cls].map some = ([693, 233] : List Nat).map (fun i => lw_tbl[i]?) := by rfl
set_option maxRecDepth 100000 in
theorem zg_358 : [zz_cw zt_hh zm_358, Cond.initialized zm_358.1.1.cls].all goodWord = true := by decide +kernel
set_option maxRecDepth 100000 in
theorem zb_358 : (plainName zm_358.1.1.cls && (decide (zm_358.1.1.cls ≠ "java/lang/invoke/MethodHandle" ∧ zm_358.1.1.cls ≠ "java/lang/invoke/VarHandle") && decide (zm_358.1.2.2.1 ≤ 40))) = true := by decide +kernel
theorem zo_358 : zz_okM zt_hh zp_P zt_cl zt_tf zt_fd zt_nf zt_T zt_N zm_358 := zz_w_okM zw_358 zb_358 (zz_places goodWord zq_358 zg_358)
set_option maxRecDepth 100000 in
theorem zd_359_0 : ∀ r ∈ zl_359_0, decode zm_359.1.2.1 r.1 = .ok (r.2.1, r.2.2.1) := by decide +kernel
set_option maxRecDepth 100000 in
theorem zq_359_0 : (zl_359_0.flatMap (zz_wr zt_hh zp_P zt_cl zm_359.1.1.cls)).map some = ([677, 678, 676] : List Nat).map (fun i => lw_tbl[i]?) := by rfl
set_option maxRecDepth 100000 in
theorem zg_359_0 : (zl_359_0.flatMap (zz_wr zt_hh zp_P zt_cl zm_359.1.1.cls)).all goodWord = true := by decide +kernel
set_option maxRecDepth 100000 in
theorem zr_359_0 : (zl_359_0.flatMap (zz_wn zp_P zm_359.1.1.cls)).map some = ([] : List Nat).map (fun i => lw_tbl[i]?) := by rfl
set_option maxRecDepth 100000 in
theorem zs_359_0 : (zl_359_0.flatMap (zz_wn zp_P zm_359.1.1.cls)).all zz_isN = true := by decide +kernel
set_option maxRecDepth 100000 in
theorem zb_359_0 : zl_359_0.all (fun r => zz_wb zt_hh zp_P zt_cl zt_tf zt_fd zt_nf zm_359.1.1.cls zm_359.1.1.name r) = true := by decide +kernel
set_option maxRecDepth 100000 in
theorem zy_359_0 : zl_359_0.all (fun r => zz_tb zt_hh zp_P zm_359 r) = true := by decide +kernel
theorem zw_359 : zz_okW zt_hh zp_P zt_cl zt_tf zt_fd zt_nf zt_T zt_N zm_359 := List.forall_mem_cons.mpr ⟨(zz_w_okL zd_359_0 zb_359_0 (zz_places goodWord zq_359_0 zg_359_0) (zz_places zz_isN zr_359_0 zs_359_0) zy_359_0), (fun _ h => absurd h List.not_mem_nil)⟩
set_option maxRecDepth 100000 in
theorem zq_359 : [zz_cw zt_hh zm_359, Cond.initialized zm_359.1.1.cls].map some = ([675, 233] : List Nat).map (fun i => lw_tbl[i]?) := by rfl
set_option maxRecDepth 100000 in
theorem zg_359 : [zz_cw zt_hh zm_359, Cond.initialized zm_359.1.1.cls].all goodWord = true := by decide +kernel
set_option maxRecDepth 100000 in
theorem zb_359 : (plainName zm_359.1.1.cls && (decide (zm_359.1.1.cls ≠ "java/lang/invoke/MethodHandle" ∧ zm_359.1.1.cls ≠ "java/lang/invoke/VarHandle") && decide (zm_359.1.2.2.1 ≤ 40))) = true := by decide +kernel
theorem zo_359 : zz_okM zt_hh zp_P zt_cl zt_tf zt_fd zt_nf zt_T zt_N zm_359 := zz_w_okM zw_359 zb_359 (zz_places goodWord zq_359 zg_359)
set_option maxRecDepth 100000 in
theorem zd_360_0 : ∀ r ∈ zl_360_0, decode zm_360.1.2.1 r.1 = .ok (r.2.1, r.2.2.1) := by decide +kernel
set_option maxRecDepth 100000 in
theorem zq_360_0 : (zl_360_0.flatMap (zz_wr zt_hh zp_P zt_cl zm_360.1.1.cls)).map some = ([681, 682, 680, 2595, 687, 688, 686, 695, 694, 2595, 687, 688, 686] : List Nat).map (fun i => lw_tbl[i]?) := by rfl
set_option maxRecDepth 100000 in
theorem zg_360_0 : (zl_360_0.flatMap (zz_wr zt_hh zp_P zt_cl zm_360.1.1.cls)).all goodWord = true := by decide +kernel
set_option maxRecDepth 100000 in
theorem zr_360_0 : (zl_360_0.flatMap (zz_wn zp_P zm_360.1.1.cls)).map some = ([] : List Nat).map (fun i => lw_tbl[i]?) := by rfl
set_option maxRecDepth 100000 in
theorem zs_360_0 : (zl_360_0.flatMap (zz_wn zp_P zm_360.1.1.cls)).all zz_isN = true := by decide +kernel
set_option maxRecDepth 100000 in
theorem zb_360_0 : zl_360_0.all (fun r => zz_wb zt_hh zp_P zt_cl zt_tf zt_fd zt_nf zm_360.1.1.cls zm_360.1.1.name r) = true := by decide +kernel
set_option maxRecDepth 100000 in
theorem zy_360_0 : zl_360_0.all (fun r => zz_tb zt_hh zp_P zm_360 r) = true := by decide +kernel
theorem zw_360 : zz_okW zt_hh zp_P zt_cl zt_tf zt_fd zt_nf zt_T zt_N zm_360 := List.forall_mem_cons.mpr ⟨(zz_w_okL zd_360_0 zb_360_0 (zz_places goodWord zq_360_0 zg_360_0) (zz_places zz_isN zr_360_0 zs_360_0) zy_360_0), (fun _ h => absurd h List.not_mem_nil)⟩
set_option maxRecDepth 100000 in
theorem zq_360 : [zz_cw zt_hh zm_360, Cond.initialized zm_360.1.1.cls].map some = ([679, 233] : List Nat).map (fun i => lw_tbl[i]?) := by rfl
set_option maxRecDepth 100000 in
theorem zg_360 : [zz_cw zt_hh zm_360, Cond.initialized zm_360.1.1.cls].all goodWord = true := by decide +kernel
set_option maxRecDepth 100000 in
theorem zb_360 : (plainName zm_360.1.1.cls && (decide (zm_360.1.1.cls ≠ "java/lang/invoke/MethodHandle" ∧ zm_360.1.1.cls ≠ "java/lang/invoke/VarHandle") && decide (zm_360.1.2.2.1 ≤ 40))) = true := by decide +kernel
theorem zo_360 : zz_okM zt_hh zp_P zt_cl zt_tf zt_fd zt_nf zt_T zt_N zm_360 := zz_w_okM zw_360 zb_360 (zz_places goodWord zq_360 zg_360)
set_option maxRecDepth 100000 in
theorem zd_361_0 : ∀ r ∈ zl_361_0, decode zm_361.1.2.1 r.1 = .ok (r.2.1, r.2.2.1) := by decide +kernel
set_option maxRecDepth 100000 in
theorem zq_361_0 : (zl_361_0.flatMap (zz_wr zt_hh zp_P zt_cl zm_361.1.1.cls)).map some = ([684, 2594] : List Nat).map (fun i => lw_tbl[i]?) := by rfl
set_option maxRecDepth 100000 in
theorem zg_361_0 : (zl_361_0.flatMap (zz_wr zt_hh zp_P zt_cl zm_361.1.1.cls)).all goodWord = true := by decide +kernel
set_option maxRecDepth 100000 in
theorem zr_361_0 : (zl_361_0.flatMap (zz_wn zp_P zm_361.1.1.cls)).map some = ([] : List Nat).map (fun i => lw_tbl[i]?) := by rfl
set_option maxRecDepth 100000 in
theorem zs_361_0 : (zl_361_0.flatMap (zz_wn zp_P zm_361.1.1.cls)).all zz_isN = true := by decide +kernel
set_option maxRecDepth 100000 in
theorem zb_361_0 : zl_361_0.all (fun r => zz_wb zt_hh zp_P zt_cl zt_tf zt_fd zt_nf zm_361.1.1.cls zm_361.1.1.name r) = true := by decide +kernel
set_option maxRecDepth 100000 in
theorem zy_361_0 : zl_361_0.all (fun r => zz_tb zt_hh zp_P zm_361 r) = true := by decide +kernel
theorem zw_361 : zz_okW zt_hh zp_P zt_cl zt_tf zt_fd zt_nf zt_T zt_N zm_361 := List.forall_mem_cons.mpr ⟨(zz_w_okL zd_361_0 zb_361_0 (zz_places goodWord zq_361_0 zg_361_0) (zz_places zz_isN zr_361_0 zs_361_0) zy_361_0), (fun _ h => absurd h List.not_mem_nil)⟩
set_option maxRecDepth 100000 in
theorem zq_361 : [zz_cw zt_hh zm_361, Cond.initialized zm_361.1.1.cls].map some = ([683, 233] : List Nat).map (fun i => lw_tbl[i]?) := by rfl
set_option maxRecDepth 100000 in
theorem zg_361 : [zz_cw zt_hh zm_361, Cond.initialized zm_361.1.1.cls].all goodWord = true := by decide +kernel
set_option maxRecDepth 100000 in
theorem zb_361 : (plainName zm_361.1.1.cls && (decide (zm_361.1.1.cls ≠ "java/lang/invoke/MethodHandle" ∧ zm_361.1.1.cls ≠ "java/lang/invoke/VarHandle") && decide (zm_361.1.2.2.1 ≤ 40))) = true := by decide +kernel
theorem zo_361 : zz_okM zt_hh zp_P zt_cl zt_tf zt_fd zt_nf zt_T zt_N zm_361 := zz_w_okM zw_361 zb_361 (zz_places goodWord zq_361 zg_361)
set_option maxRecDepth 100000 in
theorem zd_362_0 : ∀ r ∈ zl_362_0, decode zm_362.1.2.1 r.1 = .ok (r.2.1, r.2.2.1) := by decide +kernel
set_option maxRecDepth 100000 in
theorem zq_362_0 : (zl_362_0.flatMap (zz_wr zt_hh zp_P zt_cl zm_362.1.1.cls)).map some = ([] : List Nat).map (fun i => lw_tbl[i]?) := by rfl
set_option maxRecDepth 100000 in
theorem zg_362_0 : (zl_362_0.flatMap (zz_wr zt_hh zp_P zt_cl zm_362.1.1.cls)).all goodWord = true := by decide +kernel
set_option maxRecDepth 100000 in
theorem zr_362_0 : (zl_362_0.flatMap (zz_wn zp_P zm_362.1.1.cls)).map some = ([] : List Nat).map (fun i => lw_tbl[i]?) := by rfl
set_option maxRecDepth 100000 in
theorem zs_362_0 : (zl_362_0.flatMap (zz_wn zp_P zm_362.1.1.cls)).all zz_isN = true := by decide +kernel
set_option maxRecDepth 100000 in
theorem zb_362_0 : zl_362_0.all (fun r => zz_wb zt_hh zp_P zt_cl zt_tf zt_fd zt_nf zm_362.1.1.cls zm_362.1.1.name r) = true := by decide +kernel
set_option maxRecDepth 100000 in
theorem zy_362_0 : zl_362_0.all (fun r => zz_tb zt_hh zp_P zm_362 r) = true := by decide +kernel
theorem zw_362 : zz_okW zt_hh zp_P zt_cl zt_tf zt_fd zt_nf zt_T zt_N zm_362 := List.forall_mem_cons.mpr ⟨(zz_w_okL zd_362_0 zb_362_0 (zz_places goodWord zq_362_0 zg_362_0) (zz_places zz_isN zr_362_0 zs_362_0) zy_362_0), (fun _ h => absurd h List.not_mem_nil)⟩
set_option maxRecDepth 100000 in
theorem zq_362 : [zz_cw zt_hh zm_362, Cond.initialized zm_362.1.1.cls].map some = ([699, 234] : List Nat).map (fun i => lw_tbl[i]?) := by rfl
set_option maxRecDepth 100000 in
theorem zg_362 : [zz_cw zt_hh zm_362, Cond.initialized zm_362.1.1.cls].all goodWord = true := by decide +kernel
set_option maxRecDepth 100000 in
theorem zb_362 : (plainName zm_362.1.1.cls && (decide (zm_362.1.1.cls ≠ "java/lang/invoke/MethodHandle" ∧ zm_362.1.1.cls ≠ "java/lang/invoke/VarHandle") && decide (zm_362.1.2.2.1 ≤ 40))) = true := by decide +kernel
theorem zo_362 : zz_okM zt_hh zp_P zt_cl zt_tf zt_fd zt_nf zt_T zt_N zm_362 := zz_w_okM zw_362 zb_362 (zz_places goodWord zq_362 zg_362)
set_option maxRecDepth 100000 in
theorem zd_363_0 : ∀ r ∈ zl_363_0, decode zm_363.1.2.1 r.1 = .ok (r.2.1, r.2.2.1) := by decide +kernel
set_option maxRecDepth 100000 in
theorem zq_363_0 : (zl_363_0.flatMap (zz_wr zt_hh zp_P zt_cl zm_363.1.1.cls)).map some = ([698, 697, 700, 701, 228, 702, 703, 592, 228, 593, 705, 704] : List Nat).map (fun i => lw_tbl[i]?) := by rfl
set_option maxRecDepth 100000 in
theorem zg_363_0 : (zl_363_0.flatMap (zz_wr zt_hh zp_P zt_cl zm_363.1.1.cls)).all goodWord = true := by decide +kernel
set_option maxRecDepth 100000 in
theorem zr_363_0 : (zl_363_0.flatMap (zz_wn zp_P zm_363.1.1.cls)).map some = ([] : List Nat).map (fun i => lw_tbl[i]?) := by rfl
set_option maxRecDepth 100000 in
theorem zs_363_0 : (zl_363_0.flatMap (zz_wn zp_P zm_363.1.1.cls)).all zz_isN = true := by decide +kernel
set_option maxRecDepth 100000 in
theorem zb_363_0 : zl_363_0.all (fun r => zz_wb zt_hh zp_P zt_cl zt_tf zt_fd zt_nf zm_363.1.1.cls zm_363.1.1.name r) = true := by decide +kernel
set_option maxRecDepth 100000 in
theorem zy_363_0 : zl_363_0.all (fun r => zz_tb zt_hh zp_P zm_363 r) = true := by decide +kernel
theorem zw_363 : zz_okW zt_hh zp_P zt_cl zt_tf zt_fd zt_nf zt_T zt_N zm_363 := List.forall_mem_cons.mpr ⟨(zz_w_okL zd_363_0 zb_363_0 (zz_places goodWord zq_363_0 zg_363_0) (zz_places zz_isN zr_363_0 zs_363_0) zy_363_0), (fun _ h => absurd h List.not_mem_nil)⟩
set_option maxRecDepth 100000 in
theorem zq_363 : [zz_cw zt_hh zm_363, Cond.initialized zm_363.1.1.cls].map some = ([696, 234] : List Nat).map (fun i => lw_tbl[i]?) := by rfl
set_option maxRecDepth 100000 in
theorem zg_363 : [zz_cw zt_hh zm_363, Cond.initialized zm_363.1.1.cls].all goodWord = true := by decide +kernel
set_option maxRecDepth 100000 in
theorem zb_363 : (plainName zm_363.1.1.cls && (decide (zm_363.1.1.cls ≠ "java/lang/invoke/MethodHandle" ∧ zm_363.1.1.cls ≠ "java/lang/invoke/VarHandle") && decide (zm_363.1.2.2.1 ≤ 40))) = true := by decide +kernel
theorem zo_363 : zz_okM zt_hh zp_P zt_cl zt_tf zt_fd zt_nf zt_T zt_N zm_363 := zz_w_okM zw_363 zb_363 (zz_places goodWord zq_363 zg_363)
set_option maxRecDepth 100000 in
theorem zd_364_0 : ∀ r ∈ zl_364_0, decode zm_364.1.2.1 r.1 = .ok (r.2.1, r.2.2.1) := by decide +kernel
set_option maxRecDepth 100000 in
theorem zq_364_0 : (zl_364_0.flatMap (zz_wr zt_hh zp_P zt_cl zm_364.1.1.cls)).map some = ([] : List Nat).map (fun i => lw_tbl[i]?) := by rfl
set_option maxRecDepth 100000 in
theorem zg_364_0 : (zl_364_0.flatMap (zz_wr zt_hh zp_P zt_cl zm_364.1.1.cls)).all goodWord = true := by decide +kernel
set_option maxRecDepth 100000 in
theorem zr_364_0 : (zl_364_0.flatMap (zz_wn zp_P zm_364.1.1.cls)).map some = ([] : List Nat).map (fun i => lw_tbl[i]?) := by rfl
set_option maxRecDepth 100000 in
theorem zs_364_0 : (zl_364_0.flatMap (zz_wn zp_P zm_364.1.1.cls)).all zz_isN = true := by decide +kernel
set_option maxRecDepth 100000 in
theorem zb_364_0 : zl_364_0.all (fun r => zz_wb zt_hh zp_P zt_cl zt_tf zt_fd zt_nf zm_364.1.1.cls zm_364.1.1.name r) = true := by decide +kernel
set_option maxRecDepth 100000 in
theorem zy_364_0 : zl_364_0.all (fun r => zz_tb zt_hh zp_P zm_364 r) = true := by decide +kernel
theorem zw_364 : zz_okW zt_hh zp_P zt_cl zt_tf zt_fd zt_nf zt_T zt_N zm_364 := List.forall_mem_cons.mpr ⟨(zz_w_okL zd_364_0 zb_364_0 (zz_places goodWord zq_364_0 zg_364_0) (zz_places zz_isN zr_364_0 zs_364_0) zy_364_0), (fun _ h => absurd h List.not_mem_nil)⟩
set_option maxRecDepth 100000 in
theorem zq_364 : [zz_cw zt_hh zm_364, Cond.initialized zm_364.1.1.cls].map some = ([706, 234] : List Nat).map (fun i => lw_tbl[i]?) := by rfl
set_option maxRecDepth 100000 in
theorem zg_364 : [zz_cw zt_hh zm_364, Cond.initialized zm_364.1.1.cls].all goodWord = true := by decide +kernel
set_option maxRecDepth 100000 in
theorem zb_364 : (plainName zm_364.1.1.cls && (decide (zm_364.1.1.cls ≠ "java/lang/invoke/MethodHandle" ∧ zm_364.1.1.cls ≠ "java/lang/invoke/VarHandle") && decide (zm_364.1.2.2.1 ≤ 40))) = true := by decide +kernel
theorem zo_364 : zz_okM zt_hh zp_P zt_cl zt_tf zt_fd zt_nf zt_T zt_N zm_364 := zz_w_okM zw_364 zb_364 (zz_places goodWord zq_364 zg_364)
set_option maxRecDepth 100000 in
theorem zd_365_0 : ∀ r ∈ zl_365_0, decode zm_365.1.2.1 r.1 = .ok (r.2.1, r.2.2.1) := by decide +kernel
set_option maxRecDepth 100000 in
theorem zq_365_0 : (zl_365_0.flatMap (zz_wr zt_hh zp_P zt_cl zm_365.1.1.cls)).map some = ([288, 604, 592, 228, 593, 605, 607, 606, 230] : List Nat).map (fun i => lw_tbl[i]?) := by rfl
set_option maxRecDepth 100000 in
theorem zg_365_0 : (zl_365_0.flatMap (zz_wr zt_hh zp_P zt_cl zm_365.1.1.cls)).all goodWord = true := by decide +kernel
set_option maxRecDepth 100000 in
theorem zr_365_0 : (zl_365_0.flatMap (zz_wn zp_P zm_365.1.1.cls)).map some = ([] : List Nat).map (fun i => lw_tbl[i]?) := by rfl
set_option maxRecDepth 100000 in
theorem zs_365_0 : (zl_365_0.flatMap (zz_wn zp_P zm_365.1.1.cls)).all zz_isN = true := by decide +kernel
set_option maxRecDepth 100000 in
theorem zb_365_0 : zl_365_0.all (fun r => zz_wb zt_hh zp_P zt_cl zt_tf zt_fd zt_nf zm_365.1.1.cls zm_365.1.1.name r) = true := by decide +kernel
set_option maxRecDepth 100000 in
theorem zy_365_0 : zl_365_0.all (fun r => zz_tb zt_hh zp_P zm_365 r) = true := by decide +kernel
theorem zw_365 : zz_okW zt_hh zp_P zt_cl zt_tf zt_fd zt_nf zt_T zt_N zm_365 := List.forall_mem_cons.mpr ⟨(zz_w_okL zd_365_0 zb_365_0 (zz_places goodWord zq_365_0 zg_365_0) (zz_places zz_isN zr_365_0 zs_365_0) zy_365_0), (fun _ h => absurd h List.not_mem_nil)⟩
set_option maxRecDepth 100000 in
theorem zq_365 : [zz_cw zt_hh zm_365, Cond.initialized zm_365.1.1.cls].map some = ([596, 229] : List Nat).map (fun i => lw_tbl[i]?) := by rfl
set_option maxRecDepth 100000 in
theorem zg_365 : [zz_cw zt_hh zm_365, Cond.initialized zm_365.1.1.cls].all goodWord = true := by decide +kernel
set_option maxRecDepth 100000 in
theorem zb_365 : (plainName zm_365.1.1.cls && (decide (zm_365.1.1.cls ≠ "java/lang/invoke/MethodHandle" ∧ zm_365.1.1.cls ≠ "java/lang/invoke/VarHandle") && decide (zm_365.1.2.2.1 ≤ 40))) = true := by decide +kernel
theorem zo_365 : zz_okM zt_hh zp_P zt_cl zt_tf zt_fd zt_nf zt_T zt_N zm_365 := zz_w_okM zw_365 zb_365 (zz_places goodWord zq_365 zg_365)
set_option maxRecDepth 100000 in
theorem zd_366_0 : ∀ r ∈ zl_366_0, decode zm_366.1.2.1 r.1 = .ok (r.2.1, r.2.2.1) := by decide +kernel
set_option maxRecDepth 100000 in
theorem zq_366_0 : (zl_366_0.flatMap (zz_wr zt_hh zp_P zt_cl zm_366.1.1.cls)).map some = ([289, 604, 592, 228, 593, 605, 607, 606, 230] : List Nat).map (fun i => lw_tbl[i]?) := by rfl
set_option maxRecDepth 100000 in
theorem zg_366_0 : (zl_366_0.flatMap (zz_wr zt_hh zp_P zt_cl zm_366.1.1.cls)).all goodWord = true := by decide +kernel
set_option maxRecDepth 100000 in
theorem zr_366_0 : (zl_366_0.flatMap (zz_wn zp_P zm_366.1.1.cls)).map some = ([] : List Nat).map (fun i => lw_tbl[i]?) := by rfl
set_option maxRecDepth 100000 in
theorem zs_366_0 : (zl_366_0.flatMap (zz_wn zp_P zm_366.1.1.cls)).all zz_isN = true := by decide +kernel
set_option maxRecDepth 100000 in
theorem zb_366_0 : zl_366_0.all (fun r => zz_wb zt_hh zp_P zt_cl zt_tf zt_fd zt_nf zm_366.1.1.cls zm_366.1.1.name r) = true := by decide +kernel
set_option maxRecDepth 100000 in
theorem zy_366_0 : zl_366_0.all (fun r => zz_tb zt_hh zp_P zm_366 r) = true := by decide +kernel
theorem zw_366 : zz_okW zt_hh zp_P zt_cl zt_tf zt_fd zt_nf zt_T zt_N zm_366 := List.forall_mem_cons.mpr ⟨(zz_w_okL zd_366_0 zb_366_0 (zz_places goodWord zq_366_0 zg_366_0) (zz_places zz_isN zr_366_0 zs_366_0) zy_366_0), (fun _ h => absurd h List.not_mem_nil)⟩
set_option maxRecDepth 100000 in
theorem zq_366 : [zz_cw zt_hh zm_366, Cond.initialized zm_366.1.1.cls].map some = ([639, 229] : List Nat).map (fun i => lw_tbl[i]?) := by rfl
set_option maxRecDepth 100000 in
theorem zg_366 : [zz_cw zt_hh zm_366, Cond.initialized zm_366.1.1.cls].all goodWord = true := by decide +kernel
set_option maxRecDepth 100000 in
theorem zb_366 : (plainName zm_366.1.1.cls && (decide (zm_366.1.1.cls ≠ "java/lang/invoke/MethodHandle" ∧ zm_366.1.1.cls ≠ "java/lang/invoke/VarHandle") && decide (zm_366.1.2.2.1 ≤ 40))) = true := by decide +kernel
theorem zo_366 : zz_okM zt_hh zp_P zt_cl zt_tf zt_fd zt_nf zt_T zt_N zm_366 := zz_w_okM zw_366 zb_366 (zz_places goodWord zq_366 zg_366)
set_option maxRecDepth 100000 in
theorem zd_367_0 : ∀ r ∈ zl_367_0, decode zm_367.1.2.1 r.1 = .ok (r.2.1, r.2.2.1) := by decide +kernel
set_option maxRecDepth 100000 in
theorem zq_367_0 : (zl_367_0.flatMap (zz_wr zt_hh zp_P zt_cl zm_367.1.1.cls)).map some = ([290, 604, 592, 228, 593, 605, 607, 606, 230] : List Nat).map (fun i => lw_tbl[i]?) := by rfl
set_option maxRecDepth 100000 in
theorem zg_367_0 : (zl_367_0.flatMap (zz_wr zt_hh zp_P zt_cl zm_367.1.1.cls)).all goodWord = true := by decide +kernel
set_option maxRecDepth 100000 in
theorem zr_367_0 : (zl_367_0.flatMap (zz_wn zp_P zm_367.1.1.cls)).map some = ([] : List Nat).map (fun i => lw_tbl[i]?) := by rfl
set_option maxRecDepth 100000 in
theorem zs_367_0 : (zl_367_0.flatMap (zz_wn zp_P zm_367.1.1.cls)).all zz_isN = true := by decide +kernel
set_option maxRecDepth 100000 in
theorem zb_367_0 : zl_367_0.all (fun r => zz_wb zt_hh zp_P zt_cl zt_tf zt_fd zt_nf zm_367.1.1.cls zm_367.1.1.name r) = true := by decide +kernel
set_option maxRecDepth 100000 in
theorem zy_367_0 : zl_367_0.all (fun r => zz_tb zt_hh zp_P zm_367 r) = true := by decide +kernel
theorem zw_367 : zz_okW zt_hh zp_P zt_cl zt_tf zt_fd zt_nf zt_T zt_N zm_367 := List.forall_mem_cons.mpr ⟨(zz_w_okL zd_367_0 zb_367_0 (zz_places goodWord zq_367_0 zg_367_0) (zz_places zz_isN zr_367_0 zs_367_0) zy_367_0), (fun _ h => absurd h List.not_mem_nil)⟩
set_option maxRecDepth 100000 in
theorem zq_367 : [zz_cw zt_hh zm_367, Cond.initialized zm_367.1.1.cls].map some = ([647, 229] : List Nat).map (fun i => lw_tbl[i]?) := by rfl
set_option maxRecDepth 100000 in
theorem zg_367 : [zz_cw zt_hh zm_367, Cond.initialized zm_367.1.1.cls].all goodWord = true := by decide +kernel
set_option maxRecDepth 100000 in
theorem zb_367 : (plainName zm_367.1.1.cls && (decide (zm_367.1.1.cls ≠ "java/lang/invoke/MethodHandle" ∧ zm_367.1.1.cls ≠ "java/lang/invoke/VarHandle") && decide (zm_367.1.2.2.1 ≤ 40))) = true := by decide +kernel
theorem zo_367 : zz_okM zt_hh zp_P zt_cl zt_tf zt_fd zt_nf zt_T zt_N zm_367 := zz_w_okM zw_367 zb_367 (zz_places goodWord zq_367 zg_367)
set_option maxRecDepth 100000 in
theorem zo_all : ∀ M ∈ zp_L, zz_okM zt_hh zp_P zt_cl zt_tf zt_fd zt_nf zt_T zt_N M := List.forall_mem_cons.mpr ⟨zo_0, List.forall_mem_cons.mpr ⟨zo_1, List.forall_mem_cons.mpr ⟨zo_2, List.forall_mem_cons.mpr ⟨zo_3, List.forall_mem_cons.mpr ⟨zo_4, List.forall_mem_cons.mpr ⟨zo_5, List.forall_mem_cons.mpr ⟨zo_6, List.forall_mem_cons.mpr ⟨zo_7, List.forall_mem_cons.mpr ⟨zo_8, List.forall_mem_cons.mpr ⟨zo_9, List.forall_mem_cons.mpr ⟨zo_10, List.forall_mem_cons.mpr ⟨zo_11, List.forall_mem_cons.mpr ⟨zo_12, List.forall_mem_cons.mpr ⟨zo_13, List.forall_mem_cons.mpr ⟨zo_14, List.forall_mem_cons.mpr ⟨zo_15, List.forall_mem_cons.mpr ⟨zo_16, List.forall_mem_cons.mpr ⟨zo_17, List.forall_mem_cons.mpr ⟨zo_18, List.forall_mem_cons.mpr ⟨zo_19, List.forall_mem_cons.mpr ⟨zo_20, List.forall_mem_cons.mpr ⟨zo_21, List.forall_mem_cons.mpr ⟨zo_22, List.forall_mem_cons.mpr ⟨zo_23, List.forall_mem_cons.mpr ⟨zo_24, List.forall_mem_cons.mpr ⟨zo_25, List.forall_mem_cons.mpr ⟨zo_26, List.forall_mem_cons.mpr ⟨zo_27, List.forall_mem_cons.mpr ⟨zo_28, List.forall_mem_cons.mpr ⟨zo_29, List.forall_mem_cons.mpr ⟨zo_30, List.forall_mem_cons.mpr ⟨zo_31, List.forall_mem_cons.mpr ⟨zo_32, List.forall_mem_cons.mpr ⟨zo_33, List.forall_mem_cons.mpr ⟨zo_34, List.forall_mem_cons.mpr ⟨zo_35, List.forall_mem_cons.mpr ⟨zo_36, List.forall_mem_cons.mpr ⟨zo_37, List.forall_mem_cons.mpr ⟨zo_38, List.forall_mem_cons.mpr ⟨zo_39, List.forall_mem_cons.mpr ⟨zo_40, List.forall_mem_cons.mpr ⟨zo_41, List.forall_mem_cons.mpr ⟨zo_42, List.forall_mem_cons.mpr ⟨zo_43, List.forall_mem_cons.mpr ⟨zo_44, List.forall_mem_cons.mpr ⟨zo_45, List.forall_mem_cons.mpr ⟨zo_46, List.forall_mem_cons.mpr ⟨zo_47, List.forall_mem_cons.mpr ⟨zo_48, List.forall_mem_cons.mpr ⟨zo_49, List.forall_mem_cons.mpr ⟨zo_50, List.forall_mem_cons.mpr ⟨zo_51, List.forall_mem_cons.mpr ⟨zo_52, List.forall_mem_cons.mpr ⟨zo_53, List.forall_mem_cons.mpr ⟨zo_54, List.forall_mem_cons.mpr ⟨zo_55, List.forall_mem_cons.mpr ⟨zo_56, List.forall_mem_cons.mpr ⟨zo_57, List.forall_mem_cons.mpr ⟨zo_58, List.forall_mem_cons.mpr ⟨zo_59, List.forall_mem_cons.mpr ⟨zo_60, List.forall_mem_cons.mpr ⟨zo_61, List.forall_mem_cons.mpr ⟨zo_62, List.forall_mem_cons.mpr ⟨zo_63, List.forall_mem_cons.mpr ⟨zo_64, List.forall_mem_cons.mpr ⟨zo_65, List.forall_mem_cons.mpr ⟨zo_66, List.forall_mem_cons.mpr ⟨zo_67, List.forall_mem_cons.mpr ⟨zo_68, List.forall_mem_cons.mpr ⟨zo_69, List.forall_mem_cons.mpr ⟨zo_70, List.forall_mem_cons.mpr ⟨zo_71, List.forall_mem_cons.mpr ⟨zo_72, List.forall_mem_cons.mpr ⟨zo_73, List.forall_mem_cons.mpr ⟨zo_74, List.forall_mem_cons.mpr ⟨zo_75, List.forall_mem_cons.mpr ⟨zo_76, List.forall_mem_cons.mpr ⟨zo_77, List.forall_mem_cons.mpr ⟨zo_78, List.forall_mem_cons.mpr ⟨zo_79, List.forall_mem_cons.mpr ⟨zo_80, List.forall_mem_cons.mpr ⟨zo_81, List.forall_mem_cons.mpr ⟨zo_82, List.forall_mem_cons.mpr ⟨zo_83, List.forall_mem_cons.mpr ⟨zo_84, List.forall_mem_cons.mpr ⟨zo_85, List.forall_mem_cons.mpr ⟨zo_86, List.forall_mem_cons.mpr ⟨zo_87, List.forall_mem_cons.mpr ⟨zo_88, List.forall_mem_cons.mpr ⟨zo_89, List.forall_mem_cons.mpr ⟨zo_90, List.forall_mem_cons.mpr ⟨zo_91, List.forall_mem_cons.mpr ⟨zo_92, List.forall_mem_cons.mpr ⟨zo_93, List.forall_mem_cons.mpr ⟨zo_94, List.forall_mem_cons.mpr ⟨zo_95, List.forall_mem_cons.mpr ⟨zo_96, List.forall_mem_cons.mpr ⟨zo_97, List.forall_mem_cons.mpr ⟨zo_98, List.forall_mem_cons.mpr ⟨zo_99, List.forall_mem_cons.mpr ⟨zo_100, List.forall_mem_cons.mpr ⟨zo_101, List.forall_mem_cons.mpr ⟨zo_102, List.forall_mem_cons.mpr ⟨zo_103, List.forall_mem_cons.mpr ⟨zo_104, List.forall_mem_cons.mpr ⟨zo_105, List.forall_mem_cons.mpr ⟨zo_106, List.forall_mem_cons.mpr ⟨zo_107, List.forall_mem_cons.mpr ⟨zo_108, List.forall_mem_cons.mpr ⟨zo_109, List.forall_mem_cons.mpr ⟨zo_110, List.forall_mem_cons.mpr ⟨zo_111, List.forall_mem_cons.mpr ⟨zo_112, List.forall_mem_cons.mpr ⟨zo_113, List.forall_mem_cons.mpr ⟨zo_114, List.forall_mem_cons.mpr ⟨zo_115, List.forall_mem_cons.mpr ⟨zo_116, List.forall_mem_cons.mpr ⟨zo_117, List.forall_mem_cons.mpr ⟨zo_118, List.forall_mem_cons.mpr ⟨zo_119, List.forall_mem_cons.mpr ⟨zo_120, List.forall_mem_cons.mpr ⟨zo_121, List.forall_mem_cons.mpr ⟨zo_122, List.forall_mem_cons.mpr ⟨zo_123, List.forall_mem_cons.mpr ⟨zo_124, List.forall_mem_cons.mpr ⟨zo_125, List.forall_mem_cons.mpr ⟨zo_126, List.forall_mem_cons.mpr ⟨zo_127, List.forall_mem_cons.mpr ⟨zo_128, List.forall_mem_cons.mpr ⟨zo_129, List.forall_mem_cons.mpr ⟨zo_130, List.forall_mem_cons.mpr ⟨zo_131, List.forall_mem_cons.mpr ⟨zo_132, List.forall_mem_cons.mpr ⟨zo_133, List.forall_mem_cons.mpr ⟨zo_134, List.forall_mem_cons.mpr ⟨zo_135, List.forall_mem_cons.mpr ⟨zo_136, List.forall_mem_cons.mpr ⟨zo_137, List.forall_mem_cons.mpr ⟨zo_138, List.forall_mem_cons.mpr ⟨zo_139, List.forall_mem_cons.mpr ⟨zo_140, List.forall_mem_cons.mpr ⟨zo_141, List.forall_mem_cons.mpr ⟨zo_142, List.forall_mem_cons.mpr ⟨zo_143, List.forall_mem_cons.mpr ⟨zo_144, List.forall_mem_cons.mpr ⟨zo_145, List.forall_mem_cons.mpr ⟨zo_146, List.forall_mem_cons.mpr ⟨zo_147, List.forall_mem_cons.mpr ⟨zo_148, List.forall_mem_cons.mpr ⟨zo_149, List.forall_mem_cons.mpr ⟨zo_150, List.forall_mem_cons.mpr ⟨zo_151, List.forall_mem_cons.mpr ⟨zo_152, List.forall_mem_cons.mpr ⟨zo_153, List.forall_mem_cons.mpr ⟨zo_154, List.forall_mem_cons.mpr ⟨zo_155, List.forall_mem_cons.mpr ⟨zo_156, List.forall_mem_cons.mpr ⟨zo_157, List.forall_mem_cons.mpr ⟨zo_158, List.forall_mem_cons.mpr ⟨zo_159, List.forall_mem_cons.mpr ⟨zo_160, List.forall_mem_cons.mpr ⟨zo_161, List.forall_mem_cons.mpr ⟨zo_162, List.forall_mem_cons.mpr ⟨zo_163, List.forall_mem_cons.mpr ⟨zo_164, List.forall_mem_cons.mpr ⟨zo_165, List.forall_mem_cons.mpr ⟨zo_166, List.forall_mem_cons.mpr ⟨zo_167, List.forall_mem_cons.mpr ⟨zo_168, List.forall_mem_cons.mpr ⟨zo_169, List.forall_mem_cons.mpr ⟨zo_170, List.forall_mem_cons.mpr ⟨zo_171, List.forall_mem_cons.mpr ⟨zo_172, List.forall_mem_cons.mpr ⟨zo_173, List.forall_mem_cons.mpr ⟨zo_174, List.forall_mem_cons.mpr ⟨zo_175, List.forall_mem_cons.mpr ⟨zo_176, List.forall_mem_cons.mpr ⟨zo_177, List.forall_mem_cons.mpr ⟨zo_178, List.forall_mem_cons.mpr ⟨zo_179, List.forall_mem_cons.mpr ⟨zo_180, List.forall_mem_cons.mpr ⟨zo_181, List.forall_mem_cons.mpr ⟨zo_182, List.forall_mem_cons.mpr ⟨zo_183, List.forall_mem_cons.mpr ⟨zo_184, List.forall_mem_cons.mpr ⟨zo_185, List.forall_mem_cons.mpr ⟨zo_186, List.forall_mem_cons.mpr ⟨zo_187, List.forall_mem_cons.mpr ⟨zo_188, List.forall_mem_cons.mpr ⟨zo_189, List.forall_mem_cons.mpr ⟨zo_190, List.forall_mem_cons.mpr ⟨zo_191, List.forall_mem_cons.mpr ⟨zo_192, List.forall_mem_cons.mpr ⟨zo_193, List.forall_mem_cons.mpr ⟨zo_194, List.forall_mem_cons.mpr ⟨zo_195, List.forall_mem_cons.mpr ⟨zo_196, List.forall_mem_cons.mpr ⟨zo_197, List.forall_mem_cons.mpr ⟨zo_198, List.forall_mem_cons.mpr ⟨zo_199, List.forall_mem_cons.mpr ⟨zo_200, List.forall_mem_cons.mpr ⟨zo_201, List.forall_mem_cons.mpr ⟨zo_202, List.forall_mem_cons.mpr ⟨zo_203, List.forall_mem_cons.mpr ⟨zo_204, List.forall_mem_cons.mpr ⟨zo_205, List.forall_mem_cons.mpr ⟨zo_206, List.forall_mem_cons.mpr ⟨zo_207, List.forall_mem_cons.mpr ⟨zo_208, List.forall_mem_cons.mpr ⟨zo_209, List.forall_mem_cons.mpr ⟨zo_210, List.forall_mem_cons.mpr ⟨zo_211, List.forall_mem_cons.mpr ⟨zo_212, List.forall_mem_cons.mpr ⟨zo_213, List.forall_mem_cons.mpr ⟨zo_214, List.forall_mem_cons.mpr ⟨zo_215, List.forall_mem_cons.mpr ⟨zo_216, List.forall_mem_cons.mpr ⟨zo_217, List.forall_mem_cons.mpr ⟨zo_218, List.forall_mem_cons.mpr ⟨zo_219, List.forall_mem_cons.mpr ⟨zo_220, List.forall_mem_cons.mpr ⟨zo_221, List.forall_mem_cons.mpr ⟨zo_222, List.forall_mem_cons.mpr ⟨zo_223, List.forall_mem_cons.mpr ⟨zo_224, List.forall_mem_cons.mpr ⟨zo_225, List.forall_mem_cons.mpr ⟨zo_226, List.forall_mem_cons.mpr ⟨zo_227, List.forall_mem_cons.mpr ⟨zo_228, List.forall_mem_cons.mpr ⟨zo_229, List.forall_mem_cons.mpr ⟨zo_230, List.forall_mem_cons.mpr ⟨zo_231, List.forall_mem_cons.mpr ⟨zo_232, List.forall_mem_cons.mpr ⟨zo_233, List.forall_mem_cons.mpr ⟨zo_234, List.forall_mem_cons.mpr ⟨zo_235, List.forall_mem_cons.mpr ⟨zo_236, List.forall_mem_cons.mpr ⟨zo_237, List.forall_mem_cons.mpr ⟨zo_238, List.forall_mem_cons.mpr ⟨zo_239, List.forall_mem_cons.mpr ⟨zo_240, List.forall_mem_cons.mpr ⟨zo_241, List.forall_mem_cons.mpr ⟨zo_242, List.forall_mem_cons.mpr ⟨zo_243, List.forall_mem_cons.mpr ⟨zo_244, List.forall_mem_cons.mpr ⟨zo_245, List.forall_mem_cons.mpr ⟨zo_246, List.forall_mem_cons.mpr ⟨zo_247, List.forall_mem_cons.mpr ⟨zo_248, List.forall_mem_cons.mpr ⟨zo_249, List.forall_mem_cons.mpr ⟨zo_250, List.forall_mem_cons.mpr ⟨zo_251, List.forall_mem_cons.mpr ⟨zo_252, List.forall_mem_cons.mpr ⟨zo_253, List.forall_mem_cons.mpr ⟨zo_254, List.forall_mem_cons.mpr ⟨zo_255, List.forall_mem_cons.mpr ⟨zo_256, List.forall_mem_cons.mpr ⟨zo_257, List.forall_mem_cons.mpr ⟨zo_258, List.forall_mem_cons.mpr ⟨zo_259, List.forall_mem_cons.mpr ⟨zo_260, List.forall_mem_cons.mpr ⟨zo_261, List.forall_mem_cons.mpr ⟨zo_262, List.forall_mem_cons.mpr ⟨zo_263, List.forall_mem_cons.mpr ⟨zo_264, List.forall_mem_cons.mpr ⟨zo_265, List.forall_mem_cons.mpr ⟨zo_266, List.forall_mem_cons.mpr ⟨zo_267, List.forall_mem_cons.mpr ⟨zo_268, List.forall_mem_cons.mpr ⟨zo_269, List.forall_mem_cons.mpr ⟨zo_270, List.forall_mem_cons.mpr ⟨zo_271, List.forall_mem_cons.mpr ⟨zo_272, List.forall_mem_cons.mpr ⟨zo_273, List.forall_mem_cons.mpr ⟨zo_274, List.forall_mem_cons.mpr ⟨zo_275, List.forall_mem_cons.mpr ⟨zo_276, List.forall_mem_cons.mpr ⟨zo_277, List.forall_mem_cons.mpr ⟨zo_278, List.forall_mem_cons.mpr ⟨zo_279, List.forall_mem_cons.mpr ⟨zo_280, List.forall_mem_cons.mpr ⟨zo_281, List.forall_mem_cons.mpr ⟨zo_282, List.forall_mem_cons.mpr ⟨zo_283, List.forall_mem_cons.mpr ⟨zo_284, List.forall_mem_cons.mpr ⟨zo_285, List.forall_mem_cons.mpr ⟨zo_286, List.forall_mem_cons.mpr ⟨zo_287, List.forall_mem_cons.mpr ⟨zo_288, List.forall_mem_cons.mpr ⟨zo_289, List.forall_mem_cons.mpr ⟨zo_290, List.forall_mem_cons.mpr ⟨zo_291, List.forall_mem_cons.mpr ⟨zo_292, List.forall_mem_cons.mpr ⟨zo_293, List.forall_mem_cons.mpr ⟨zo_294, List.forall_mem_cons.mpr ⟨zo_295, List.forall_mem_cons.mpr ⟨zo_296, List.forall_mem_cons.mpr ⟨zo_297, List.forall_mem_cons.mpr ⟨zo_298, List.forall_mem_cons.mpr ⟨zo_299, List.forall_mem_cons.mpr ⟨zo_300, List.forall_mem_cons.mpr ⟨zo_301, List.forall_mem_cons.mpr ⟨zo_302, List.forall_mem_cons.mpr ⟨zo_303, List.forall_mem_cons.mpr ⟨zo_304, List.forall_mem_cons.mpr ⟨zo_305, List.forall_mem_cons.mpr ⟨zo_306, List.forall_mem_cons.mpr ⟨zo_307, List.forall_mem_cons.mpr ⟨zo_308, List.forall_mem_cons.mpr ⟨zo_309, List.forall_mem_cons.mpr ⟨zo_310, List.forall_mem_cons.mpr ⟨zo_311, List.forall_mem_cons.mpr ⟨zo_312, List.forall_mem_cons.mpr ⟨zo_313, List.forall_mem_cons.mpr ⟨zo_314, List.forall_mem_cons.mpr ⟨zo_315, List.forall_mem_cons.mpr ⟨zo_316, List.forall_mem_cons.mpr ⟨zo_317, List.forall_mem_cons.mpr ⟨zo_318, List.forall_mem_cons.mpr ⟨zo_319, List.forall_mem_cons.mpr ⟨zo_320, List.forall_mem_cons.mpr ⟨zo_321, List.forall_mem_cons.mpr ⟨zo_322, List.forall_mem_cons.mpr ⟨zo_323, List.forall_mem_cons.mpr ⟨zo_324, List.forall_mem_cons.mpr ⟨zo_325, List.forall_mem_cons.mpr ⟨zo_326, List.forall_mem_cons.mpr ⟨zo_327, List.forall_mem_cons.mpr ⟨zo_328, List.forall_mem_cons.mpr ⟨zo_329, List.forall_mem_cons.mpr ⟨zo_330, List.forall_mem_cons.mpr ⟨zo_331, List.forall_mem_cons.mpr ⟨zo_332, List.forall_mem_cons.mpr ⟨zo_333, List.forall_mem_cons.mpr ⟨zo_334, List.forall_mem_cons.mpr ⟨zo_335, List.forall_mem_cons.mpr ⟨zo_336, List.forall_mem_cons.mpr ⟨zo_337, List.forall_mem_cons.mpr ⟨zo_338, List.forall_mem_cons.mpr ⟨zo_339, List.forall_mem_cons.mpr ⟨zo_340, List.forall_mem_cons.mpr ⟨zo_341, List.forall_mem_cons.mpr ⟨zo_342, List.forall_mem_cons.mpr ⟨zo_343, List.forall_mem_cons.mpr ⟨zo_344, List.forall_mem_cons.mpr ⟨zo_345, List.forall_mem_cons.mpr ⟨zo_346, List.forall_mem_cons.mpr ⟨zo_347, List.forall_mem_cons.mpr ⟨zo_348, List.forall_mem_cons.mpr ⟨zo_349, List.forall_mem_cons.mpr ⟨zo_350, List.forall_mem_cons.mpr ⟨zo_351, List.forall_mem_cons.mpr ⟨zo_352, List.forall_mem_cons.mpr ⟨zo_353, List.forall_mem_cons.mpr ⟨zo_354, List.forall_mem_cons.mpr ⟨zo_355, List.forall_mem_cons.mpr ⟨zo_356, List.forall_mem_cons.mpr ⟨zo_357, List.forall_mem_cons.mpr ⟨zo_358, List.forall_mem_cons.mpr ⟨zo_359, List.forall_mem_cons.mpr ⟨zo_360, List.forall_mem_cons.mpr ⟨zo_361, List.forall_mem_cons.mpr ⟨zo_362, List.forall_mem_cons.mpr ⟨zo_363, List.forall_mem_cons.mpr ⟨zo_364, List.forall_mem_cons.mpr ⟨zo_365, List.forall_mem_cons.mpr ⟨zo_366, List.forall_mem_cons.mpr ⟨zo_367, fun _ h => absurd h List.not_mem_nil⟩⟩⟩⟩⟩⟩⟩⟩⟩⟩⟩⟩⟩⟩⟩⟩⟩⟩⟩⟩⟩⟩⟩⟩⟩⟩⟩⟩⟩⟩⟩⟩⟩⟩⟩⟩⟩⟩⟩⟩⟩⟩⟩⟩⟩⟩⟩⟩⟩⟩⟩⟩⟩⟩⟩⟩⟩⟩⟩⟩⟩⟩⟩⟩⟩⟩⟩⟩⟩⟩⟩⟩⟩⟩⟩⟩⟩⟩⟩⟩⟩⟩⟩⟩⟩⟩⟩⟩⟩⟩⟩⟩⟩⟩⟩⟩⟩⟩⟩⟩⟩⟩⟩⟩⟩⟩⟩⟩⟩⟩⟩⟩⟩⟩⟩⟩⟩⟩⟩⟩⟩⟩⟩⟩⟩⟩⟩⟩⟩⟩⟩⟩⟩⟩⟩⟩⟩⟩⟩⟩⟩⟩⟩⟩⟩⟩⟩⟩⟩⟩⟩⟩⟩⟩⟩⟩⟩⟩⟩⟩⟩⟩⟩⟩⟩⟩⟩⟩⟩⟩⟩⟩⟩⟩⟩⟩⟩⟩⟩⟩⟩⟩⟩⟩⟩⟩⟩⟩⟩⟩⟩⟩⟩⟩⟩⟩⟩⟩⟩⟩⟩⟩⟩⟩⟩⟩⟩⟩⟩⟩⟩⟩⟩⟩⟩⟩⟩⟩⟩⟩⟩⟩⟩⟩⟩⟩⟩⟩⟩⟩⟩⟩⟩⟩⟩⟩⟩⟩⟩⟩⟩⟩⟩⟩⟩⟩⟩⟩⟩⟩⟩⟩⟩⟩⟩⟩⟩⟩⟩⟩⟩⟩⟩⟩⟩⟩⟩⟩⟩⟩⟩⟩⟩⟩⟩⟩⟩⟩⟩⟩⟩⟩⟩⟩⟩⟩⟩⟩⟩⟩⟩⟩⟩⟩⟩⟩⟩⟩⟩⟩⟩⟩⟩⟩⟩⟩⟩⟩⟩⟩⟩⟩⟩⟩⟩⟩⟩⟩⟩⟩⟩⟩⟩⟩⟩⟩⟩⟩⟩⟩⟩⟩⟩⟩⟩⟩⟩⟩⟩⟩⟩⟩⟩⟩⟩⟩⟩⟩⟩⟩⟩⟩⟩⟩⟩⟩⟩⟩⟩⟩⟩⟩⟩⟩⟩⟩⟩⟩
