set_option maxRecDepth 100000 in
theorem zq_74 : [zz_cw zt_hh zm_74, Cond.initialized zm_74.1.1.cls].map some = ([2537, 227] : List Nat).map (fun i => lw_tbl[i]?) := by rfl
set_option maxRecDepth 100000 in
theorem zg_74 : [zz_cw zt_hh zm_74, Cond.initialized zm_74.1.1.cls].all goodWord = true := by decide +kernel
set_option maxRecDepth 100000 in
theorem zb_74 : (plainName zm_74.1.1.cls && (decide (zm_74.1.1.cls ≠ "java/lang/invoke/MethodHandle" ∧ zm_74.1.1.cls ≠ "java/lang/invoke/VarHandle") && decide (zm_74.1.2.2.1 ≤ 40))) = true := by decide +kernel
theorem zo_74 : zz_okM zt_hh zp_P zt_cl zt_tf zt_fd zt_nf zt_T zt_N zm_74 := zz_w_okM zw_74 zb_74 (zz_places goodWord zq_74 zg_74)
set_option maxRecDepth 100000 in
theorem zd_75_0 : ∀ r ∈ zl_75_0, decode zm_75.1.2.1 r.1 = .ok (r.2.1, r.2.2.1) := by decide +kernel
set_option maxRecDepth 100000 in
theorem zq_75_0 : (zl_75_0.flatMap (zz_wr zt_hh zp_P zt_cl zm_75.1.1.cls)).map some = ([1839, 1839, 1839, 2509, 209, 2507, 1850, 1851] : List Nat).map (fun i => lw_tbl[i]?) := by rfl
set_option maxRecDepth 100000 in
theorem zg_75_0 : (zl_75_0.flatMap (zz_wr zt_hh zp_P zt_cl zm_75.1.1.cls)).all goodWord = true := by decide +kernel
set_option maxRecDepth 100000 in
theorem zr_75_0 : (zl_75_0.flatMap (zz_wn zp_P zm_75.1.1.cls)).map some = ([] : List Nat).map (fun i => lw_tbl[i]?) := by rfl
set_option maxRecDepth 100000 in
theorem zs_75_0 : (zl_75_0.flatMap (zz_wn zp_P zm_75.1.1.cls)).all zz_isN = true := by decide +kernel
set_option maxRecDepth 100000 in
theorem zb_75_0 : zl_75_0.all (fun r => zz_wb zt_hh zp_P zt_cl zt_tf zt_fd zt_nf zm_75.1.1.cls zm_75.1.1.name r) = true := by decide +kernel
set_option maxRecDepth 100000 in
theorem zd_75_1 : ∀ r ∈ zl_75_1, decode zm_75.1.2.1 r.1 = .ok (r.2.1, r.2.2.1) := by decide +kernel
set_option maxRecDepth 100000 in
theorem zq_75_1 : (zl_75_1.flatMap (zz_wr zt_hh zp_P zt_cl zm_75.1.1.cls)).map some = ([1850, 1851, 2509, 209, 2507, 1839, 1839] : List Nat).map (fun i => lw_tbl[i]?) := by rfl
set_option maxRecDepth 100000 in
theorem zg_75_1 : (zl_75_1.flatMap (zz_wr zt_hh zp_P zt_cl zm_75.1.1.cls)).all goodWord = true := by decide +kernel
set_option maxRecDepth 100000 in
theorem zr_75_1 : (zl_75_1.flatMap (zz_wn zp_P zm_75.1.1.cls)).map some = ([] : List Nat).map (fun i => lw_tbl[i]?) := by rfl
set_option maxRecDepth 100000 in
theorem zs_75_1 : (zl_75_1.flatMap (zz_wn zp_P zm_75.1.1.cls)).all zz_isN = true := by decide +kernel
set_option maxRecDepth 100000 in
theorem zb_75_1 : zl_75_1.all (fun r => zz_wb zt_hh zp_P zt_cl zt_tf zt_fd zt_nf zm_75.1.1.cls zm_75.1.1.name r) = true := by decide +kernel
set_option maxRecDepth 100000 in
theorem zd_75_2 : ∀ r ∈ zl_75_2, decode zm_75.1.2.1 r.1 = .ok (r.2.1, r.2.2.1) := by decide +kernel
set_option maxRecDepth 100000 in
theorem zq_75_2 : (zl_75_2.flatMap (zz_wr zt_hh zp_P zt_cl zm_75.1.1.cls)).map some = ([2300, 160, 2298, 1839, 1839, 2324, 166, 2322, 2316, 164, 2314, 1850, 1851] : List Nat).map (fun i => lw_tbl[i]?) := by rfl
set_option maxRecDepth 100000 in
theorem zg_75_2 : (zl_75_2.flatMap (zz_wr zt_hh zp_P zt_cl zm_75.1.1.cls)).all goodWord = true := by decide +kernel
set_option maxRecDepth 100000 in
theorem zr_75_2 : (zl_75_2.flatMap (zz_wn zp_P zm_75.1.1.cls)).map some = ([] : List Nat).map (fun i => lw_tbl[i]?) := by rfl
set_option maxRecDepth 100000 in
theorem zs_75_2 : (zl_75_2.flatMap (zz_wn zp_P zm_75.1.1.cls)).all zz_isN = true := by decide +kernel
set_option maxRecDepth 100000 in
theorem zb_75_2 : zl_75_2.all (fun r => zz_wb zt_hh zp_P zt_cl zt_tf zt_fd zt_nf zm_75.1.1.cls zm_75.1.1.name r) = true := by decide +kernel
set_option maxRecDepth 100000 in
theorem zd_75_3 : ∀ r ∈ zl_75_3, decode zm_75.1.2.1 r.1 = .ok (r.2.1, r.2.2.1) := by decide +kernel
set_option maxRecDepth 100000 in
theorem zq_75_3 : (zl_75_3.flatMap (zz_wr zt_hh zp_P zt_cl zm_75.1.1.cls)).map some = ([1839, 1839, 2509, 209, 2507] : List Nat).map (fun i => lw_tbl[i]?) := by rfl
set_option maxRecDepth 100000 in
theorem zg_75_3 : (zl_75_3.flatMap (zz_wr zt_hh zp_P zt_cl zm_75.1.1.cls)).all goodWord = true := by decide +kernel
set_option maxRecDepth 100000 in
theorem zr_75_3 : (zl_75_3.flatMap (zz_wn zp_P zm_75.1.1.cls)).map some = ([] : List Nat).map (fun i => lw_tbl[i]?) := by rfl
set_option maxRecDepth 100000 in
theorem zs_75_3 : (zl_75_3.flatMap (zz_wn zp_P zm_75.1.1.cls)).all zz_isN = true := by decide +kernel
set_option maxRecDepth 100000 in
theorem zb_75_3 : zl_75_3.all (fun r => zz_wb zt_hh zp_P zt_cl zt_tf zt_fd zt_nf zm_75.1.1.cls zm_75.1.1.name r) = true := by decide +kernel
set_option maxRecDepth 100000 in
theorem zy_75_0 : zl_75_0.all (fun r => zz_tb zt_hh zp_P zm_75 r) = true := by decide +kernel
set_option maxRecDepth 100000 in
theorem zy_75_1 : zl_75_1.all (fun r => zz_tb zt_hh zp_P zm_75 r) = true := by decide +kernel
set_option maxRecDepth 100000 in
theorem zy_75_2 : zl_75_2.all (fun r => zz_tb zt_hh zp_P zm_75 r) = true := by decide +kernel
set_option maxRecDepth 100000 in
theorem zy_75_3 : zl_75_3.all (fun r => zz_tb zt_hh zp_P zm_75 r) = true := by decide +kernel
theorem zw_75 : zz_okW zt_hh zp_P zt_cl zt_tf zt_fd zt_nf zt_T zt_N zm_75 := List.forall_mem_cons.mpr ⟨(zz_w_okL zd_75_0 zb_75_0 (zz_places goodWord zq_75_0 zg_75_0) (zz_places zz_isN zr_75_0 zs_75_0) zy_75_0), List.forall_mem_cons.mpr ⟨(zz_w_okL zd_75_1 zb_75_1 (zz_places goodWord zq_75_1 zg_75_1) (zz_places zz_isN zr_75_1 zs_75_1) zy_75_1), List.forall_mem_cons.mpr ⟨(zz_w_okL zd_75_2 zb_75_2 (zz_places goodWord zq_75_2 zg_75_2) (zz_places zz_isN zr_75_2 zs_75_2) zy_75_2), List.forall_mem_cons.mpr ⟨(zz_w_okL zd_75_3 zb_75_3 (zz_places goodWord zq_75_3 zg_75_3) (zz_places zz_isN zr_75_3 zs_75_3) zy_75_3), (fun _ h => absurd h List.not_mem_nil)⟩⟩⟩⟩
set_option maxRecDepth 100000 in
theorem zq_75 : [zz_cw zt_hh zm_75, Cond.initialized zm_75.1.1.cls].map some = ([2506, 227] : List Nat).map (fun i => lw_tbl[i]?) := by rfl
set_option maxRecDepth 100000 in
theorem zg_75 : [zz_cw zt_hh zm_75, Cond.initialized zm_75.1.1.cls].all goodWord = true := by decide +kernel
set_option maxRecDepth 100000 in
theorem zb_75 : (plainName zm_75.1.1.cls && (decide (zm_75.1.1.cls ≠ "java/lang/invoke/MethodHandle" ∧ zm_75.1.1.cls ≠ "java/lang/invoke/VarHandle") && decide (zm_75.1.2.2.1 ≤ 40))) = true := by decide +kernel
theorem zo_75 : zz_okM zt_hh zp_P zt_cl zt_tf zt_fd zt_nf zt_T zt_N zm_75 := zz_w_okM zw_75 zb_75 (zz_places goodWord zq_75 zg_75)
set_option maxRecDepth 100000 in
theorem zd_76_0 : ∀ r ∈ zl_76_0, decode zm_76.1.2.1 r.1 = .ok (r.2.1, r.2.2.1) := by decide +kernel
set_option maxRecDepth 100000 in
theorem zq_76_0 : (zl_76_0.flatMap (zz_wr zt_hh zp_P zt_cl zm_76.1.1.cls)).map some = ([2532, 2531, 1839, 1839, 1839, 2300, 160, 2298, 1839] : List Nat).map (fun i => lw_tbl[i]?) := by rfl
set_option maxRecDepth 100000 in
theorem zg_76_0 : (zl_76_0.flatMap (zz_wr zt_hh zp_P zt_cl zm_76.1.1.cls)).all goodWord = true := by decide +kernel
set_option maxRecDepth 100000 in
theorem zr_76_0 : (zl_76_0.flatMap (zz_wn zp_P zm_76.1.1.cls)).map some = ([] : List Nat).map (fun i => lw_tbl[i]?) := by rfl
set_option maxRecDepth 100000 in
theorem zs_76_0 : (zl_76_0.flatMap (zz_wn zp_P zm_76.1.1.cls)).all zz_isN = true := by decide +kernel
set_option maxRecDepth 100000 in
theorem zb_76_0 : zl_76_0.all (fun r => zz_wb zt_hh zp_P zt_cl zt_tf zt_fd zt_nf zm_76.1.1.cls zm_76.1.1.name r) = true := by decide +kernel
set_option maxRecDepth 100000 in
theorem zd_76_1 : ∀ r ∈ zl_76_1, decode zm_76.1.2.1 r.1 = .ok (r.2.1, r.2.2.1) := by decide +kernel
set_option maxRecDepth 100000 in
theorem zq_76_1 : (zl_76_1.flatMap (zz_wr zt_hh zp_P zt_cl zm_76.1.1.cls)).map some = ([2300, 160, 2298, 1839] : List Nat).map (fun i => lw_tbl[i]?) := by rfl
set_option maxRecDepth 100000 in
theorem zg_76_1 : (zl_76_1.flatMap (zz_wr zt_hh zp_P zt_cl zm_76.1.1.cls)).all goodWord = true := by decide +kernel
set_option maxRecDepth 100000 in
theorem zr_76_1 : (zl_76_1.flatMap (zz_wn zp_P zm_76.1.1.cls)).map some = ([] : List Nat).map (fun i => lw_tbl[i]?) := by rfl
set_option maxRecDepth 100000 in
theorem zs_76_1 : (zl_76_1.flatMap (zz_wn zp_P zm_76.1.1.cls)).all zz_isN = true := by decide +kernel
set_option maxRecDepth 100000 in
theorem zb_76_1 : zl_76_1.all (fun r => zz_wb zt_hh zp_P zt_cl zt_tf zt_fd zt_nf zm_76.1.1.cls zm_76.1.1.name r) = true := by decide +kernel
set_option maxRecDepth 100000 in
theorem zy_76_0 : zl_76_0.all (fun r => zz_tb zt_hh zp_P zm_76 r) = true := by decide +kernel
set_option maxRecDepth 100000 in
theorem zy_76_1 : zl_76_1.all (fun r => zz_tb zt_hh zp_P zm_76 r) = true := by decide +kernel
theorem zw_76 : zz_okW zt_hh zp_P zt_cl zt_tf zt_fd zt_nf zt_T zt_N zm_76 := List.forall_mem_cons.mpr ⟨(zz_w_okL zd_76_0 zb_76_0 (zz_places goodWord zq_76_0 zg_76_0) (zz_places zz_isN zr_76_0 zs_76_0) zy_76_0), List.forall_mem_cons.mpr ⟨(zz_w_okL zd_76_1 zb_76_1 (zz_places goodWord zq_76_1 zg_76_1) (zz_places zz_isN zr_76_1 zs_76_1) zy_76_1), (fun _ h => absurd h List.not_mem_nil)⟩⟩
set_option maxRecDepth 100000 in
theorem zq_76 : [zz_cw zt_hh zm_76, Cond.initialized zm_76.1.1.cls].map some = ([2541, 227] : List Nat).map (fun i => lw_tbl[i]?) := by rfl
set_option maxRecDepth 100000 in
theorem zg_76 : [zz_cw zt_hh zm_76, Cond.initialized zm_76.1.1.cls].all goodWord = true := by decide +kernel
set_option maxRecDepth 100000 in
theorem zb_76 : (plainName zm_76.1.1.cls && (decide (zm_76.1.1.cls ≠ "java/lang/invoke/MethodHandle" ∧ zm_76.1.1.cls ≠ "java/lang/invoke/VarHandle") && decide (zm_76.1.2.2.1 ≤ 40))) = true := by decide +kernel
theorem zo_76 : zz_okM zt_hh zp_P zt_cl zt_tf zt_fd zt_nf zt_T zt_N zm_76 := zz_w_okM zw_76 zb_76 (zz_places goodWord zq_76 zg_76)
set_option maxRecDepth 100000 in
theorem zd_77_0 : ∀ r ∈ zl_77_0, decode zm_77.1.2.1 r.1 = .ok (r.2.1, r.2.2.1) := by decide +kernel
set_option maxRecDepth 100000 in
theorem zq_77_0 : (zl_77_0.flatMap (zz_wr zt_hh zp_P zt_cl zm_77.1.1.cls)).map some = ([1839] : List Nat).map (fun i => lw_tbl[i]?) := by rfl
set_option maxRecDepth 100000 in
theorem zg_77_0 : (zl_77_0.flatMap (zz_wr zt_hh zp_P zt_cl zm_77.1.1.cls)).all goodWord = true := by decide +kernel
set_option maxRecDepth 100000 in
theorem zr_77_0 : (zl_77_0.flatMap (zz_wn zp_P zm_77.1.1.cls)).map some = ([] : List Nat).map (fun i => lw_tbl[i]?) := by rfl
set_option maxRecDepth 100000 in
theorem zs_77_0 : (zl_77_0.flatMap (zz_wn zp_P zm_77.1.1.cls)).all zz_isN = true := by decide +kernel
set_option maxRecDepth 100000 in
theorem zb_77_0 : zl_77_0.all (fun r => zz_wb zt_hh zp_P zt_cl zt_tf zt_fd zt_nf zm_77.1.1.cls zm_77.1.1.name r) = true := by decide +kernel
set_option maxRecDepth 100000 in
theorem zy_77_0 : zl_77_0.all (fun r => zz_tb zt_hh zp_P zm_77 r) = true := by decide +kernel
theorem zw_77 : zz_okW zt_hh zp_P zt_cl zt_tf zt_fd zt_nf zt_T zt_N zm_77 := List.forall_mem_cons.mpr ⟨(zz_w_okL zd_77_0 zb_77_0 (zz_places goodWord zq_77_0 zg_77_0) (zz_places zz_isN zr_77_0 zs_77_0) zy_77_0), (fun _ h => absurd h List.not_mem_nil)⟩
set_option maxRecDepth 100000 in
theorem zq_77 : [zz_cw zt_hh zm_77, Cond.initialized zm_77.1.1.cls].map some = ([2301, 227] : List Nat).map (fun i => lw_tbl[i]?) := by rfl
set_option maxRecDepth 100000 in
theorem zg_77 : [zz_cw zt_hh zm_77, Cond.initialized zm_77.1.1.cls].all goodWord = true := by decide +kernel
set_option maxRecDepth 100000 in
theorem zb_77 : (plainName zm_77.1.1.cls && (decide (zm_77.1.1.cls ≠ "java/lang/invoke/MethodHandle" ∧ zm_77.1.1.cls ≠ "java/lang/invoke/VarHandle") && decide (zm_77.1.2.2.1 ≤ 40))) = true := by decide +kernel
theorem zo_77 : zz_okM zt_hh zp_P zt_cl zt_tf zt_fd zt_nf zt_T zt_N zm_77 := zz_w_okM zw_77 zb_77 (zz_places goodWord zq_77 zg_77)
set_option maxRecDepth 100000 in
theorem zd_78_0 : ∀ r ∈ zl_78_0, decode zm_78.1.2.1 r.1 = .ok (r.2.1, r.2.2.1) := by decide +kernel
set_option maxRecDepth 100000 in
theorem zq_78_0 : (zl_78_0.flatMap (zz_wr zt_hh zp_P zt_cl zm_78.1.1.cls)).map some = ([2532, 2531, 1839, 1839] : List Nat).map (fun i => lw_tbl[i]?) := by rfl
set_option maxRecDepth 100000 in
theorem zg_78_0 : (zl_78_0.flatMap (zz_wr zt_hh zp_P zt_cl zm_78.1.1.cls)).all goodWord = true := by decide +kernel
set_option maxRecDepth 100000 in
theorem zr_78_0 : (zl_78_0.flatMap (zz_wn zp_P zm_78.1.1.cls)).map some = ([] : List Nat).map (fun i => lw_tbl[i]?) := by rfl
set_option maxRecDepth 100000 in
theorem zs_78_0 : (zl_78_0.flatMap (zz_wn zp_P zm_78.1.1.cls)).all zz_isN = true := by decide +kernel
set_option maxRecDepth 100000 in
theorem zb_78_0 : zl_78_0.all (fun r => zz_wb zt_hh zp_P zt_cl zt_tf zt_fd zt_nf zm_78.1.1.cls zm_78.1.1.name r) = true := by decide +kernel
set_option maxRecDepth 100000 in
theorem zy_78_0 : zl_78_0.all (fun r => zz_tb zt_hh zp_P zm_78 r) = true := by decide +kernel
theorem zw_78 : zz_okW zt_hh zp_P zt_cl zt_tf zt_fd zt_nf zt_T zt_N zm_78 := List.forall_mem_cons.mpr ⟨(zz_w_okL zd_78_0 zb_78_0 (zz_places goodWord zq_78_0 zg_78_0) (zz_places zz_isN zr_78_0 zs_78_0) zy_78_0), (fun _ h => absurd h List.not_mem_nil)⟩
set_option maxRecDepth 100000 in
theorem zq_78 : [zz_cw zt_hh zm_78, Cond.initialized zm_78.1.1.cls].map some = ([2545, 227] : List Nat).map (fun i => lw_tbl[i]?) := by rfl
set_option maxRecDepth 100000 in
theorem zg_78 : [zz_cw zt_hh zm_78, Cond.initialized zm_78.1.1.cls].all goodWord = true := by decide +kernel
set_option maxRecDepth 100000 in
theorem zb_78 : (plainName zm_78.1.1.cls && (decide (zm_78.1.1.cls ≠ "java/lang/invoke/MethodHandle" ∧ zm_78.1.1.cls ≠ "java/lang/invoke/VarHandle") && decide (zm_78.1.2.2.1 ≤ 40))) = true := by decide +kernel
theorem zo_78 : zz_okM zt_hh zp_P zt_cl zt_tf zt_fd zt_nf zt_T zt_N zm_78 := zz_w_okM zw_78 zb_78 (zz_places goodWord zq_78 zg_78)
set_option maxRecDepth 100000 in
theorem zd_79_0 : ∀ r ∈ zl_79_0, decode zm_79.1.2.1 r.1 = .ok (r.2.1, r.2.2.1) := by decide +kernel
set_option maxRecDepth 100000 in
theorem zq_79_0 : (zl_79_0.flatMap (zz_wr zt_hh zp_P zt_cl zm_79.1.1.cls)).map some = ([2532, 2531, 1839] : List Nat).map (fun i => lw_tbl[i]?) := by rfl
set_option maxRecDepth 100000 in
theorem zg_79_0 : (zl_79_0.flatMap (zz_wr zt_hh zp_P zt_cl zm_79.1.1.cls)).all goodWord = true := by decide +kernel
set_option maxRecDepth 100000 in
theorem zr_79_0 : (zl_79_0.flatMap (zz_wn zp_P zm_79.1.1.cls)).map some = ([] : List Nat).map (fun i => lw_tbl[i]?) := by rfl
set_option maxRecDepth 100000 in
theorem zs_79_0 : (zl_79_0.flatMap (zz_wn zp_P zm_79.1.1.cls)).all zz_isN = true := by decide +kernel
set_option maxRecDepth 100000 in
theorem zb_79_0 : zl_79_0.all (fun r => zz_wb zt_hh zp_P zt_cl zt_tf zt_fd zt_nf zm_79.1.1.cls zm_79.1.1.name r) = true := by decide +kernel
set_option maxRecDepth 100000 in
theorem zy_79_0 : zl_79_0.all (fun r => zz_tb zt_hh zp_P zm_79 r) = true := by decide +kernel
theorem zw_79 : zz_okW zt_hh zp_P zt_cl zt_tf zt_fd zt_nf zt_T zt_N zm_79 := List.forall_mem_cons.mpr ⟨(zz_w_okL zd_79_0 zb_79_0 (zz_places goodWord zq_79_0 zg_79_0) (zz_places zz_isN zr_79_0 zs_79_0) zy_79_0), (fun _ h => absurd h List.not_mem_nil)⟩
set_option maxRecDepth 100000 in
theorem zq_79 : [zz_cw zt_hh zm_79, Cond.initialized zm_79.1.1.cls].map some = ([2549, 227] : List Nat).map (fun i => lw_tbl[i]?) := by rfl
set_option maxRecDepth 100000 in
theorem zg_79 : [zz_cw zt_hh zm_79, Cond.initialized zm_79.1.1.cls].all goodWord = true := by decide +kernel
set_option maxRecDepth 100000 in
theorem zb_79 : (plainName zm_79.1.1.cls && (decide (zm_79.1.1.cls ≠ "java/lang/invoke/MethodHandle" ∧ zm_79.1.1.cls ≠ "java/lang/invoke/VarHandle") && decide (zm_79.1.2.2.1 ≤ 40))) = true := by decide +kernel
theorem zo_79 : zz_okM zt_hh zp_P zt_cl zt_tf zt_fd zt_nf zt_T zt_N zm_79 := zz_w_okM zw_79 zb_79 (zz_places goodWord zq_79 zg_79)
set_option maxRecDepth 100000 in
theorem zd_80_0 : ∀ r ∈ zl_80_0, decode zm_80.1.2.1 r.1 = .ok (r.2.1, r.2.2.1) := by decide +kernel
set_option maxRecDepth 100000 in
theorem zq_80_0 : (zl_80_0.flatMap (zz_wr zt_hh zp_P zt_cl zm_80.1.1.cls)).map some = ([2547, 2548, 2554, 2300, 160, 2298, 2300, 160, 2298] : List Nat).map (fun i => lw_tbl[i]?) := by rfl
set_option maxRecDepth 100000 in
theorem zg_80_0 : (zl_80_0.flatMap (zz_wr zt_hh zp_P zt_cl zm_80.1.1.cls)).all goodWord = true := by decide +kernel
set_option maxRecDepth 100000 in
theorem zr_80_0 : (zl_80_0.flatMap (zz_wn zp_P zm_80.1.1.cls)).map some = ([] : List Nat).map (fun i => lw_tbl[i]?) := by rfl
set_option maxRecDepth 100000 in
theorem zs_80_0 : (zl_80_0.flatMap (zz_wn zp_P zm_80.1.1.cls)).all zz_isN = true := by decide +kernel
set_option maxRecDepth 100000 in
theorem zb_80_0 : zl_80_0.all (fun r => zz_wb zt_hh zp_P zt_cl zt_tf zt_fd zt_nf zm_80.1.1.cls zm_80.1.1.name r) = true := by decide +kernel
set_option maxRecDepth 100000 in
theorem zd_80_1 : ∀ r ∈ zl_80_1, decode zm_80.1.2.1 r.1 = .ok (r.2.1, r.2.2.1) := by decide +kernel
set_option maxRecDepth 100000 in
theorem zq_80_1 : (zl_80_1.flatMap (zz_wr zt_hh zp_P zt_cl zm_80.1.1.cls)).map some = ([2316, 164, 2314, 2300, 160, 2298, 2324, 166, 2322, 1839, 2316, 164, 2314] : List Nat).map (fun i => lw_tbl[i]?) := by rfl
set_option maxRecDepth 100000 in
theorem zg_80_1 : (zl_80_1.flatMap (zz_wr zt_hh zp_P zt_cl zm_80.1.1.cls)).all goodWord = true := by decide +kernel
set_option maxRecDepth 100000 in
theorem zr_80_1 : (zl_80_1.flatMap (zz_wn zp_P zm_80.1.1.cls)).map some = ([] : List Nat).map (fun i => lw_tbl[i]?) := by rfl
set_option maxRecDepth 100000 in
theorem zs_80_1 : (zl_80_1.flatMap (zz_wn zp_P zm_80.1.1.cls)).all zz_isN = true := by decide +kernel
set_option maxRecDepth 100000 in
theorem zb_80_1 : zl_80_1.all (fun r => zz_wb zt_hh zp_P zt_cl zt_tf zt_fd zt_nf zm_80.1.1.cls zm_80.1.1.name r) = true := by decide +kernel
set_option maxRecDepth 100000 in
theorem zy_80_0 : zl_80_0.all (fun r => zz_tb zt_hh zp_P zm_80 r) = true := by decide +kernel
set_option maxRecDepth 100000 in
theorem zy_80_1 : zl_80_1.all (fun r => zz_tb zt_hh zp_P zm_80 r) = true := by decide +kernel
theorem zw_80 : zz_okW zt_hh zp_P zt_cl zt_tf zt_fd zt_nf zt_T zt_N zm_80 := List.forall_mem_cons.mpr ⟨(zz_w_okL zd_80_0 zb_80_0 (zz_places goodWord zq_80_0 zg_80_0) (zz_places zz_isN zr_80_0 zs_80_0) zy_80_0), List.forall_mem_cons.mpr ⟨(zz_w_okL zd_80_1 zb_80_1 (zz_places goodWord zq_80_1 zg_80_1) (zz_places zz_isN zr_80_1 zs_80_1) zy_80_1), (fun _ h => absurd h List.not_mem_nil)⟩⟩
set_option maxRecDepth 100000 in
theorem zq_80 : [zz_cw zt_hh zm_80, Cond.initialized zm_80.1.1.cls].map some = ([2553, 227] : List Nat).map (fun i => lw_tbl[i]?) := by rfl
set_option maxRecDepth 100000 in
theorem zg_80 : [zz_cw zt_hh zm_80, Cond.initialized zm_80.1.1.cls].all goodWord = true := by decide +kernel
set_option maxRecDepth 100000 in
theorem zb_80 : (plainName zm_80.1.1.cls && (decide (zm_80.1.1.cls ≠ "java/lang/invoke/MethodHandle" ∧ zm_80.1.1.cls ≠ "java/lang/invoke/VarHandle") && decide (zm_80.1.2.2.1 ≤ 40))) = true := by decide +kernel
theorem zo_80 : zz_okM zt_hh zp_P zt_cl zt_tf zt_fd zt_nf zt_T zt_N zm_80 := zz_w_okM zw_80 zb_80 (zz_places goodWord zq_80 zg_80)
set_option maxRecDepth 100000 in
theorem zd_81_0 : ∀ r ∈ zl_81_0, decode zm_81.1.2.1 r.1 = .ok (r.2.1, r.2.2.1) := by decide +kernel
set_option maxRecDepth 100000 in
theorem zq_81_0 : (zl_81_0.flatMap (zz_wr zt_hh zp_P zt_cl zm_81.1.1.cls)).map some = ([2547, 2548, 2554, 1839, 2300, 160, 2298, 1839] : List Nat).map (fun i => lw_tbl[i]?) := by rfl
set_option maxRecDepth 100000 in
theorem zg_81_0 : (zl_81_0.flatMap (zz_wr zt_hh zp_P zt_cl zm_81.1.1.cls)).all goodWord = true := by decide +kernel
set_option maxRecDepth 100000 in
theorem zr_81_0 : (zl_81_0.flatMap (zz_wn zp_P zm_81.1.1.cls)).map some = ([] : List Nat).map (fun i => lw_tbl[i]?) := by rfl
set_option maxRecDepth 100000 in
theorem zs_81_0 : (zl_81_0.flatMap (zz_wn zp_P zm_81.1.1.cls)).all zz_isN = true := by decide +kernel
set_option maxRecDepth 100000 in
theorem zb_81_0 : zl_81_0.all (fun r => zz_wb zt_hh zp_P zt_cl zt_tf zt_fd zt_nf zm_81.1.1.cls zm_81.1.1.name r) = true := by decide +kernel
set_option maxRecDepth 100000 in
theorem zd_81_1 : ∀ r ∈ zl_81_1, decode zm_81.1.2.1 r.1 = .ok (r.2.1, r.2.2.1) := by decide +kernel
set_option maxRecDepth 100000 in
theorem zq_81_1 : (zl_81_1.flatMap (zz_wr zt_hh zp_P zt_cl zm_81.1.1.cls)).map some = ([2324, 166, 2322, 1839, 2316, 164, 2314, 1839, 2300, 160, 2298] : List Nat).map (fun i => lw_tbl[i]?) := by rfl
set_option maxRecDepth 100000 in
theorem zg_81_1 : (zl_81_1.flatMap (zz_wr zt_hh zp_P zt_cl zm_81.1.1.cls)).all goodWord = true := by decide +kernel
set_option maxRecDepth 100000 in
theorem zr_81_1 : (zl_81_1.flatMap (zz_wn zp_P zm_81.1.1.cls)).map some = ([] : List Nat).map (fun i => lw_tbl[i]?) := by rfl
set_option maxRecDepth 100000 in
theorem zs_81_1 : (zl_81_1.flatMap (zz_wn zp_P zm_81.1.1.cls)).all zz_isN = true := by decide +kernel
set_option maxRecDepth 100000 in
theorem zb_81_1 : zl_81_1.all (fun r => zz_wb zt_hh zp_P zt_cl zt_tf zt_fd zt_nf zm_81.1.1.cls zm_81.1.1.name r) = true := by decide +kernel
set_option maxRecDepth 100000 in
theorem zd_81_2 : ∀ r ∈ zl_81_2, decode zm_81.1.2.1 r.1 = .ok (r.2.1, r.2.2.1) := by decide +kernel
set_option maxRecDepth 100000 in
theorem zq_81_2 : (zl_81_2.flatMap (zz_wr zt_hh zp_P zt_cl zm_81.1.1.cls)).map some = ([1839] : List Nat).map (fun i => lw_tbl[i]?) := by rfl
set_option maxRecDepth 100000 in
theorem zg_81_2 : (zl_81_2.flatMap (zz_wr zt_hh zp_P zt_cl zm_81.1.1.cls)).all goodWord = true := by decide +kernel
set_option maxRecDepth 100000 in
theorem zr_81_2 : (zl_81_2.flatMap (zz_wn zp_P zm_81.1.1.cls)).map some = ([] : List Nat).map (fun i => lw_tbl[i]?) := by rfl
set_option maxRecDepth 100000 in
theorem zs_81_2 : (zl_81_2.flatMap (zz_wn zp_P zm_81.1.1.cls)).all zz_isN = true := by decide +kernel
set_option maxRecDepth 100000 in
theorem zb_81_2 : zl_81_2.all (fun r => zz_wb zt_hh zp_P zt_cl zt_tf zt_fd zt_nf zm_81.1.1.cls zm_81.1.1.name r) = true := by decide +kernel
set_option maxRecDepth 100000 in
theorem zy_81_0 : zl_81_0.all (fun r => zz_tb zt_hh zp_P zm_81 r) = true := by decide +kernel
set_option maxRecDepth 100000 in
theorem zy_81_1 : zl_81_1.all (fun r => zz_tb zt_hh zp_P zm_81 r) = true := by decide +kernel
set_option maxRecDepth 100000 in
theorem zy_81_2 : zl_81_2.all (fun r => zz_tb zt_hh zp_P zm_81 r) = true := by decide +kernel
theorem zw_81 : zz_okW zt_hh zp_P zt_cl zt_tf zt_fd zt_nf zt_T zt_N zm_81 := List.forall_mem_cons.mpr ⟨(zz_w_okL zd_81_0 zb_81_0 (zz_places goodWord zq_81_0 zg_81_0) (zz_places zz_isN zr_81_0 zs_81_0) zy_81_0), List.forall_mem_cons.mpr ⟨(zz_w_okL zd_81_1 zb_81_1 (zz_places goodWord zq_81_1 zg_81_1) (zz_places zz_isN zr_81_1 zs_81_1) zy_81_1), List.forall_mem_cons.mpr ⟨(zz_w_okL zd_81_2 zb_81_2 (zz_places goodWord zq_81_2 zg_81_2) (zz_places zz_isN zr_81_2 zs_81_2) zy_81_2), (fun _ h => absurd h List.not_mem_nil)⟩⟩⟩
set_option maxRecDepth 100000 in
theorem zq_81 : [zz_cw zt_hh zm_81, Cond.initialized zm_81.1.1.cls].map some = ([2558, 227] : List Nat).map (fun i => lw_tbl[i]?) := by rfl
set_option maxRecDepth 100000 in
theorem zg_81 : [zz_cw zt_hh zm_81, Cond.initialized zm_81.1.1.cls].all goodWord = true := by decide +kernel
set_option maxRecDepth 100000 in
theorem zb_81 : (plainName zm_81.1.1.cls && (decide (zm_81.1.1.cls ≠ "java/lang/invoke/MethodHandle" ∧ zm_81.1.1.cls ≠ "java/lang/invoke/VarHandle") && decide (zm_81.1.2.2.1 ≤ 40))) = true := by decide +kernel
theorem zo_81 : zz_okM zt_hh zp_P zt_cl zt_tf zt_fd zt_nf zt_T zt_N zm_81 := zz_w_okM zw_81 zb_81 (zz_places goodWord zq_81 zg_81)
set_option maxRecDepth 100000 in
theorem zd_82_0 : ∀ r ∈ zl_82_0, decode zm_82.1.2.1 r.1 = .ok (r.2.1, r.2.2.1) := by decide +kernel
set_option maxRecDepth 100000 in
theorem zq_82_0 : (zl_82_0.flatMap (zz_wr zt_hh zp_P zt_cl zm_82.1.1.cls)).map some = ([2532, 2531, 2532, 2531, 1839, 1839, 1839, 1839, 1839] : List Nat).map (fun i => lw_tbl[i]?) := by rfl
set_option maxRecDepth 100000 in
theorem zg_82_0 : (zl_82_0.flatMap (zz_wr zt_hh zp_P zt_cl zm_82.1.1.cls)).all goodWord = true := by decide +kernel
set_option maxRecDepth 100000 in
theorem zr_82_0 : (zl_82_0.flatMap (zz_wn zp_P zm_82.1.1.cls)).map some = ([] : List Nat).map (fun i => lw_tbl[i]?) := by rfl
set_option maxRecDepth 100000 in
theorem zs_82_0 : (zl_82_0.flatMap (zz_wn zp_P zm_82.1.1.cls)).all zz_isN = true := by decide +kernel
set_option maxRecDepth 100000 in
theorem zb_82_0 : zl_82_0.all (fun r => zz_wb zt_hh zp_P zt_cl zt_tf zt_fd zt_nf zm_82.1.1.cls zm_82.1.1.name r) = true := by decide +kernel
set_option maxRecDepth 100000 in
theorem zd_82_1 : ∀ r ∈ zl_82_1, decode zm_82.1.2.1 r.1 = .ok (r.2.1, r.2.2.1) := by decide +kernel
set_option maxRecDepth 100000 in
theorem zq_82_1 : (zl_82_1.flatMap (zz_wr zt_hh zp_P zt_cl zm_82.1.1.cls)).map some = ([1839, 1839, 2444, 193, 2442] : List Nat).map (fun i => lw_tbl[i]?) := by rfl
set_option maxRecDepth 100000 in
theorem zg_82_1 : (zl_82_1.flatMap (zz_wr zt_hh zp_P zt_cl zm_82.1.1.cls)).all goodWord = true := by decide +kernel
set_option maxRecDepth 100000 in
theorem zr_82_1 : (zl_82_1.flatMap (zz_wn zp_P zm_82.1.1.cls)).map some = ([] : List Nat).map (fun i => lw_tbl[i]?) := by rfl
set_option maxRecDepth 100000 in
theorem zs_82_1 : (zl_82_1.flatMap (zz_wn zp_P zm_82.1.1.cls)).all zz_isN = true := by decide +kernel
set_option maxRecDepth 100000 in
theorem zb_82_1 : zl_82_1.all (fun r => zz_wb zt_hh zp_P zt_cl zt_tf zt_fd zt_nf zm_82.1.1.cls zm_82.1.1.name r) = true := by decide +kernel
set_option maxRecDepth 100000 in
theorem zy_82_0 : zl_82_0.all (fun r => zz_tb zt_hh zp_P zm_82 r) = true := by decide +kernel
set_option maxRecDepth 100000 in
theorem zy_82_1 : zl_82_1.all (fun r => zz_tb zt_hh zp_P zm_82 r) = true := by decide +kernel
theorem zw_82 : zz_okW zt_hh zp_P zt_cl zt_tf zt_fd zt_nf zt_T zt_N zm_82 := List.forall_mem_cons.mpr ⟨(zz_w_okL zd_82_0 zb_82_0 (zz_places goodWord zq_82_0 zg_82_0) (zz_places zz_isN zr_82_0 zs_82_0) zy_82_0), List.forall_mem_cons.mpr ⟨(zz_w_okL zd_82_1 zb_82_1 (zz_places goodWord zq_82_1 zg_82_1) (zz_places zz_isN zr_82_1 zs_82_1) zy_82_1), (fun _ h => absurd h List.not_mem_nil)⟩⟩
set_option maxRecDepth 100000 in
theorem zq_82 : [zz_cw zt_hh zm_82, Cond.initialized zm_82.1.1.cls].map some = ([2562, 227] : List Nat).map (fun i => lw_tbl[i]?) := by rfl
set_option maxRecDepth 100000 in
theorem zg_82 : [zz_cw zt_hh zm_82, Cond.initialized zm_82.1.1.cls].all goodWord = true := by decide +kernel
set_option maxRecDepth 100000 in
theorem zb_82 : (plainName zm_82.1.1.cls && (decide (zm_82.1.1.cls ≠ "java/lang/invoke/MethodHandle" ∧ zm_82.1.1.cls ≠ "java/lang/invoke/VarHandle") && decide (zm_82.1.2.2.1 ≤ 40))) = true := by decide +kernel
theorem zo_82 : zz_okM zt_hh zp_P zt_cl zt_tf zt_fd zt_nf zt_T zt_N zm_82 := zz_w_okM zw_82 zb_82 (zz_places goodWord zq_82 zg_82)
set_option maxRecDepth 100000 in
theorem zd_83_0 : ∀ r ∈ zl_83_0, decode zm_83.1.2.1 r.1 = .ok (r.2.1, r.2.2.1) := by decide +kernel
set_option maxRecDepth 100000 in
theorem zq_83_0 : (zl_83_0.flatMap (zz_wr zt_hh zp_P zt_cl zm_83.1.1.cls)).map some = ([1880, 2513, 210, 2511, 1880, 1880] : List Nat).map (fun i => lw_tbl[i]?) := by rfl
set_option maxRecDepth 100000 in
theorem zg_83_0 : (zl_83_0.flatMap (zz_wr zt_hh zp_P zt_cl zm_83.1.1.cls)).all goodWord = true := by decide +kernel
set_option maxRecDepth 100000 in
theorem zr_83_0 : (zl_83_0.flatMap (zz_wn zp_P zm_83.1.1.cls)).map some = ([] : List Nat).map (fun i => lw_tbl[i]?) := by rfl
set_option maxRecDepth 100000 in
theorem zs_83_0 : (zl_83_0.flatMap (zz_wn zp_P zm_83.1.1.cls)).all zz_isN = true := by decide +kernel
set_option maxRecDepth 100000 in
theorem zb_83_0 : zl_83_0.all (fun r => zz_wb zt_hh zp_P zt_cl zt_tf zt_fd zt_nf zm_83.1.1.cls zm_83.1.1.name r) = true := by decide +kernel
set_option maxRecDepth 100000 in
theorem zd_83_1 : ∀ r ∈ zl_83_1, decode zm_83.1.2.1 r.1 = .ok (r.2.1, r.2.2.1) := by decide +kernel
set_option maxRecDepth 100000 in
theorem zq_83_1 : (zl_83_1.flatMap (zz_wr zt_hh zp_P zt_cl zm_83.1.1.cls)).map some = ([2513, 210, 2511, 1880, 1880, 1880] : List Nat).map (fun i => lw_tbl[i]?) := by rfl
set_option maxRecDepth 100000 in
theorem zg_83_1 : (zl_83_1.flatMap (zz_wr zt_hh zp_P zt_cl zm_83.1.1.cls)).all goodWord = true := by decide +kernel
set_option maxRecDepth 100000 in
theorem zr_83_1 : (zl_83_1.flatMap (zz_wn zp_P zm_83.1.1.cls)).map some = ([] : List Nat).map (fun i => lw_tbl[i]?) := by rfl
set_option maxRecDepth 100000 in
theorem zs_83_1 : (zl_83_1.flatMap (zz_wn zp_P zm_83.1.1.cls)).all zz_isN = true := by decide +kernel
set_option maxRecDepth 100000 in
theorem zb_83_1 : zl_83_1.all (fun r => zz_wb zt_hh zp_P zt_cl zt_tf zt_fd zt_nf zm_83.1.1.cls zm_83.1.1.name r) = true := by decide +kernel
set_option maxRecDepth 100000 in
theorem zy_83_0 : zl_83_0.all (fun r => zz_tb zt_hh zp_P zm_83 r) = true := by decide +kernel
set_option maxRecDepth 100000 in
theorem zy_83_1 : zl_83_1.all (fun r => zz_tb zt_hh zp_P zm_83 r) = true := by decide +kernel
theorem zw_83 : zz_okW zt_hh zp_P zt_cl zt_tf zt_fd zt_nf zt_T zt_N zm_83 := List.forall_mem_cons.mpr ⟨(zz_w_okL zd_83_0 zb_83_0 (zz_places goodWord zq_83_0 zg_83_0) (zz_places zz_isN zr_83_0 zs_83_0) zy_83_0), List.forall_mem_cons.mpr ⟨(zz_w_okL zd_83_1 zb_83_1 (zz_places goodWord zq_83_1 zg_83_1) (zz_places zz_isN zr_83_1 zs_83_1) zy_83_1), (fun _ h => absurd h List.not_mem_nil)⟩⟩
set_option maxRecDepth 100000 in
theorem zq_83 : [zz_cw zt_hh zm_83, Cond.initialized zm_83.1.1.cls].map some = ([2566, 227] : List Nat).map (fun i => lw_tbl[i]?) := by rfl
set_option maxRecDepth 100000 in
theorem zg_83 : [zz_cw zt_hh zm_83, Cond.initialized zm_83.1.1.cls].all goodWord = true := by decide +kernel
set_option maxRecDepth 100000 in
theorem zb_83 : (plainName zm_83.1.1.cls && (decide (zm_83.1.1.cls ≠ "java/lang/invoke/MethodHandle" ∧ zm_83.1.1.cls ≠ "java/lang/invoke/VarHandle") && decide (zm_83.1.2.2.1 ≤ 40))) = true := by decide +kernel
theorem zo_83 : zz_okM zt_hh zp_P zt_cl zt_tf zt_fd zt_nf zt_T zt_N zm_83 := zz_w_okM zw_83 zb_83 (zz_places goodWord zq_83 zg_83)
set_option maxRecDepth 100000 in
theorem zd_84_0 : ∀ r ∈ zl_84_0, decode zm_84.1.2.1 r.1 = .ok (r.2.1, r.2.2.1) := by decide +kernel
set_option maxRecDepth 100000 in
theorem zq_84_0 : (zl_84_0.flatMap (zz_wr zt_hh zp_P zt_cl zm_84.1.1.cls)).map some = ([1839, 1839, 1839, 1839, 2505, 208, 2503] : List Nat).map (fun i => lw_tbl[i]?) := by rfl
set_option maxRecDepth 100000 in
theorem zg_84_0 : (zl_84_0.flatMap (zz_wr zt_hh zp_P zt_cl zm_84.1.1.cls)).all goodWord = true := by decide +kernel
set_option maxRecDepth 100000 in
theorem zr_84_0 : (zl_84_0.flatMap (zz_wn zp_P zm_84.1.1.cls)).map some = ([] : List Nat).map (fun i => lw_tbl[i]?) := by rfl
set_option maxRecDepth 100000 in
theorem zs_84_0 : (zl_84_0.flatMap (zz_wn zp_P zm_84.1.1.cls)).all zz_isN = true := by decide +kernel
set_option maxRecDepth 100000 in
theorem zb_84_0 : zl_84_0.all (fun r => zz_wb zt_hh zp_P zt_cl zt_tf zt_fd zt_nf zm_84.1.1.cls zm_84.1.1.name r) = true := by decide +kernel
set_option maxRecDepth 100000 in
theorem zy_84_0 : zl_84_0.all (fun r => zz_tb zt_hh zp_P zm_84 r) = true := by decide +kernel
theorem zw_84 : zz_okW zt_hh zp_P zt_cl zt_tf zt_fd zt_nf zt_T zt_N zm_84 := List.forall_mem_cons.mpr ⟨(zz_w_okL zd_84_0 zb_84_0 (zz_places goodWord zq_84_0 zg_84_0) (zz_places zz_isN zr_84_0 zs_84_0) zy_84_0), (fun _ h => absurd h List.not_mem_nil)⟩
set_option maxRecDepth 100000 in
theorem zq_84 : [zz_cw zt_hh zm_84, Cond.initialized zm_84.1.1.cls].map some = ([2514, 227] : List Nat).map (fun i => lw_tbl[i]?) := by rfl
set_option maxRecDepth 100000 in
theorem zg_84 : [zz_cw zt_hh zm_84, Cond.initialized zm_84.1.1.cls].all goodWord = true := by decide +kernel
set_option maxRecDepth 100000 in
theorem zb_84 : (plainName zm_84.1.1.cls && (decide (zm_84.1.1.cls ≠ "java/lang/invoke/MethodHandle" ∧ zm_84.1.1.cls ≠ "java/lang/invoke/VarHandle") && decide (zm_84.1.2.2.1 ≤ 40))) = true := by decide +kernel
theorem zo_84 : zz_okM zt_hh zp_P zt_cl zt_tf zt_fd zt_nf zt_T zt_N zm_84 := zz_w_okM zw_84 zb_84 (zz_places goodWord zq_84 zg_84)
set_option maxRecDepth 100000 in
theorem zd_85_0 : ∀ r ∈ zl_85_0, decode zm_85.1.2.1 r.1 = .ok (r.2.1, r.2.2.1) := by decide +kernel
set_option maxRecDepth 100000 in
theorem zq_85_0 : (zl_85_0.flatMap (zz_wr zt_hh zp_P zt_cl zm_85.1.1.cls)).map some = ([1880, 1880, 1880, 1880, 2513, 210, 2511] : List Nat).map (fun i => lw_tbl[i]?) := by rfl
set_option maxRecDepth 100000 in
theorem zg_85_0 : (zl_85_0.flatMap (zz_wr zt_hh zp_P zt_cl zm_85.1.1.cls)).all goodWord = true := by decide +kernel
set_option maxRecDepth 100000 in
theorem zr_85_0 : (zl_85_0.flatMap (zz_wn zp_P zm_85.1.1.cls)).map some = ([] : List Nat).map (fun i => lw_tbl[i]?) := by rfl
set_option maxRecDepth 100000 in
theorem zs_85_0 : (zl_85_0.flatMap (zz_wn zp_P zm_85.1.1.cls)).all zz_isN = true := by decide +kernel
set_option maxRecDepth 100000 in
theorem zb_85_0 : zl_85_0.all (fun r => zz_wb zt_hh zp_P zt_cl zt_tf zt_fd zt_nf zm_85.1.1.cls zm_85.1.1.name r) = true := by decide +kernel
set_option maxRecDepth 100000 in
theorem zy_85_0 : zl_85_0.all (fun r => zz_tb zt_hh zp_P zm_85 r) = true := by decide +kernel
theorem zw_85 : zz_okW zt_hh zp_P zt_cl zt_tf zt_fd zt_nf zt_T zt_N zm_85 := List.forall_mem_cons.mpr ⟨(zz_w_okL zd_85_0 zb_85_0 (zz_places goodWord zq_85_0 zg_85_0) (zz_places zz_isN zr_85_0 zs_85_0) zy_85_0), (fun _ h => absurd h List.not_mem_nil)⟩
set_option maxRecDepth 100000 in
theorem zq_85 : [zz_cw zt_hh zm_85, Cond.initialized zm_85.1.1.cls].map some = ([2570, 227] : List Nat).map (fun i => lw_tbl[i]?) := by rfl
set_option maxRecDepth 100000 in
theorem zg_85 : [zz_cw zt_hh zm_85, Cond.initialized zm_85.1.1.cls].all goodWord = true := by decide +kernel
set_option maxRecDepth 100000 in
theorem zb_85 : (plainName zm_85.1.1.cls && (decide (zm_85.1.1.cls ≠ "java/lang/invoke/MethodHandle" ∧ zm_85.1.1.cls ≠ "java/lang/invoke/VarHandle") && decide (zm_85.1.2.2.1 ≤ 40))) = true := by decide +kernel
theorem zo_85 : zz_okM zt_hh zp_P zt_cl zt_tf zt_fd zt_nf zt_T zt_N zm_85 := zz_w_okM zw_85 zb_85 (zz_places goodWord zq_85 zg_85)
set_option maxRecDepth 100000 in
theorem zd_86_0 : ∀ r ∈ zl_86_0, decode zm_86.1.2.1 r.1 = .ok (r.2.1, r.2.2.1) := by decide +kernel
set_option maxRecDepth 100000 in
theorem zq_86_0 : (zl_86_0.flatMap (zz_wr zt_hh zp_P zt_cl zm_86.1.1.cls)).map some = ([1881, 1839, 2577, 211, 2575, 1839, 2577, 211, 2575, 1839, 2577, 211, 2575] : List Nat).map (fun i => lw_tbl[i]?) := by rfl
set_option maxRecDepth 100000 in
theorem zg_86_0 : (zl_86_0.flatMap (zz_wr zt_hh zp_P zt_cl zm_86.1.1.cls)).all goodWord = true := by decide +kernel
set_option maxRecDepth 100000 in
theorem zr_86_0 : (zl_86_0.flatMap (zz_wn zp_P zm_86.1.1.cls)).map some = ([] : List Nat).map (fun i => lw_tbl[i]?) := by rfl
set_option maxRecDepth 100000 in
theorem zs_86_0 : (zl_86_0.flatMap (zz_wn zp_P zm_86.1.1.cls)).all zz_isN = true := by decide +kernel
set_option maxRecDepth 100000 in
theorem zb_86_0 : zl_86_0.all (fun r => zz_wb zt_hh zp_P zt_cl zt_tf zt_fd zt_nf zm_86.1.1.cls zm_86.1.1.name r) = true := by decide +kernel
set_option maxRecDepth 100000 in
theorem zd_86_1 : ∀ r ∈ zl_86_1, decode zm_86.1.2.1 r.1 = .ok (r.2.1, r.2.2.1) := by decide +kernel
set_option maxRecDepth 100000 in
theorem zq_86_1 : (zl_86_1.flatMap (zz_wr zt_hh zp_P zt_cl zm_86.1.1.cls)).map some = ([2582, 212, 2580, 1881] : List Nat).map (fun i => lw_tbl[i]?) := by rfl
set_option maxRecDepth 100000 in
theorem zg_86_1 : (zl_86_1.flatMap (zz_wr zt_hh zp_P zt_cl zm_86.1.1.cls)).all goodWord = true := by decide +kernel
set_option maxRecDepth 100000 in
theorem zr_86_1 : (zl_86_1.flatMap (zz_wn zp_P zm_86.1.1.cls)).map some = ([] : List Nat).map (fun i => lw_tbl[i]?) := by rfl
set_option maxRecDepth 100000 in
theorem zs_86_1 : (zl_86_1.flatMap (zz_wn zp_P zm_86.1.1.cls)).all zz_isN = true := by decide +kernel
set_option maxRecDepth 100000 in
theorem zb_86_1 : zl_86_1.all (fun r => zz_wb zt_hh zp_P zt_cl zt_tf zt_fd zt_nf zm_86.1.1.cls zm_86.1.1.name r) = true := by decide +kernel
set_option maxRecDepth 100000 in
theorem zy_86_0 : zl_86_0.all (fun r => zz_tb zt_hh zp_P zm_86 r) = true := by decide +kernel
set_option maxRecDepth 100000 in
theorem zy_86_1 : zl_86_1.all (fun r => zz_tb zt_hh zp_P zm_86 r) = true := by decide +kernel
theorem zw_86 : zz_okW zt_hh zp_P zt_cl zt_tf zt_fd zt_nf zt_T zt_N zm_86 := List.forall_mem_cons.mpr ⟨(zz_w_okL zd_86_0 zb_86_0 (zz_places goodWord zq_86_0 zg_86_0) (zz_places zz_isN zr_86_0 zs_86_0) zy_86_0), List.forall_mem_cons.mpr ⟨(zz_w_okL zd_86_1 zb_86_1 (zz_places goodWord zq_86_1 zg_86_1) (zz_places zz_isN zr_86_1 zs_86_1) zy_86_1), (fun _ h => absurd h List.not_mem_nil)⟩⟩
set_option maxRecDepth 100000 in
theorem zq_86 : [zz_cw zt_hh zm_86, Cond.initialized zm_86.1.1.cls].map some = ([2574, 227] : List Nat).map (fun i => lw_tbl[i]?) := by rfl
set_option maxRecDepth 100000 in
theorem zg_86 : [zz_cw zt_hh zm_86, Cond.initialized zm_86.1.1.cls].all goodWord = true := by decide +kernel
set_option maxRecDepth 100000 in
theorem zb_86 : (plainName zm_86.1.1.cls && (decide (zm_86.1.1.cls ≠ "java/lang/invoke/MethodHandle" ∧ zm_86.1.1.cls ≠ "java/lang/invoke/VarHandle") && decide (zm_86.1.2.2.1 ≤ 40))) = true := by decide +kernel
theorem zo_86 : zz_okM zt_hh zp_P zt_cl zt_tf zt_fd zt_nf zt_T zt_N zm_86 := zz_w_okM zw_86 zb_86 (zz_places goodWord zq_86 zg_86)
set_option maxRecDepth 100000 in
theorem zd_87_0 : ∀ r ∈ zl_87_0, decode zm_87.1.2.1 r.1 = .ok (r.2.1, r.2.2.1) := by decide +kernel
set_option maxRecDepth 100000 in
theorem zq_87_0 : (zl_87_0.flatMap (zz_wr zt_hh zp_P zt_cl zm_87.1.1.cls)).map some = ([1881, 2579, 1881] : List Nat).map (fun i => lw_tbl[i]?) := by rfl
set_option maxRecDepth 100000 in
theorem zg_87_0 : (zl_87_0.flatMap (zz_wr zt_hh zp_P zt_cl zm_87.1.1.cls)).all goodWord = true := by decide +kernel
set_option maxRecDepth 100000 in
theorem zr_87_0 : (zl_87_0.flatMap (zz_wn zp_P zm_87.1.1.cls)).map some = ([] : List Nat).map (fun i => lw_tbl[i]?) := by rfl
set_option maxRecDepth 100000 in
theorem zs_87_0 : (zl_87_0.flatMap (zz_wn zp_P zm_87.1.1.cls)).all zz_isN = true := by decide +kernel
set_option maxRecDepth 100000 in
theorem zb_87_0 : zl_87_0.all (fun r => zz_wb zt_hh zp_P zt_cl zt_tf zt_fd zt_nf zm_87.1.1.cls zm_87.1.1.name r) = true := by decide +kernel
set_option maxRecDepth 100000 in
theorem zy_87_0 : zl_87_0.all (fun r => zz_tb zt_hh zp_P zm_87 r) = true := by decide +kernel
theorem zw_87 : zz_okW zt_hh zp_P zt_cl zt_tf zt_fd zt_nf zt_T zt_N zm_87 := List.forall_mem_cons.mpr ⟨(zz_w_okL zd_87_0 zb_87_0 (zz_places goodWord zq_87_0 zg_87_0) (zz_places zz_isN zr_87_0 zs_87_0) zy_87_0), (fun _ h => absurd h List.not_mem_nil)⟩
set_option maxRecDepth 100000 in
theorem zq_87 : [zz_cw zt_hh zm_87, Cond.initialized zm_87.1.1.cls].map some = ([2578, 227] : List Nat).map (fun i => lw_tbl[i]?) := by rfl
set_option maxRecDepth 100000 in
theorem zg_87 : [zz_cw zt_hh zm_87, Cond.initialized zm_87.1.1.cls].all goodWord = true := by decide +kernel
set_option maxRecDepth 100000 in
theorem zb_87 : (plainName zm_87.1.1.cls && (decide (zm_87.1.1.cls ≠ "java/lang/invoke/MethodHandle" ∧ zm_87.1.1.cls ≠ "java/lang/invoke/VarHandle") && decide (zm_87.1.2.2.1 ≤ 40))) = true := by decide +kernel
theorem zo_87 : zz_okM zt_hh zp_P zt_cl zt_tf zt_fd zt_nf zt_T zt_N zm_87 := zz_w_okM zw_87 zb_87 (zz_places goodWord zq_87 zg_87)
set_option maxRecDepth 100000 in
theorem zd_88_0 : ∀ r ∈ zl_88_0, decode zm_88.1.2.1 r.1 = .ok (r.2.1, r.2.2.1) := by decide +kernel
set_option maxRecDepth 100000 in
theorem zq_88_0 : (zl_88_0.flatMap (zz_wr zt_hh zp_P zt_cl zm_88.1.1.cls)).map some = ([1285, 990, 1286, 987, 989, 990, 231, 1289, 55, 1287, 1289, 55, 1287, 1289, 55, 1287, 1300, 56, 1298, 1210, 1117, 479] : List Nat).map (fun i => lw_tbl[i]?) := by rfl
set_option maxRecDepth 100000 in
theorem zg_88_0 : (zl_88_0.flatMap (zz_wr zt_hh zp_P zt_cl zm_88.1.1.cls)).all goodWord = true := by decide +kernel
set_option maxRecDepth 100000 in
theorem zr_88_0 : (zl_88_0.flatMap (zz_wn zp_P zm_88.1.1.cls)).map some = ([1291, 1292] : List Nat).map (fun i => lw_tbl[i]?) := by rfl
set_option maxRecDepth 100000 in
theorem zs_88_0 : (zl_88_0.flatMap (zz_wn zp_P zm_88.1.1.cls)).all zz_isN = true := by decide +kernel
set_option maxRecDepth 100000 in
theorem zb_88_0 : zl_88_0.all (fun r => zz_wb zt_hh zp_P zt_cl zt_tf zt_fd zt_nf zm_88.1.1.cls zm_88.1.1.name r) = true := by decide +kernel
set_option maxRecDepth 100000 in
theorem zd_88_1 : ∀ r ∈ zl_88_1, decode zm_88.1.2.1 r.1 = .ok (r.2.1, r.2.2.1) := by decide +kernel
set_option maxRecDepth 100000 in
theorem zq_88_1 : (zl_88_1.flatMap (zz_wr zt_hh zp_P zt_cl zm_88.1.1.cls)).map some = ([1125, 1126, 1302, 1088, 1313, 58, 1311, 1210, 1088, 1318, 59, 1316, 1330, 61, 1328, 1348, 65, 1346, 1352, 66, 1350, 1356, 67, 1354, 1366, 68, 1364] : List Nat).map (fun i => lw_tbl[i]?) := by rfl
set_option maxRecDepth 100000 in
theorem zg_88_1 : (zl_88_1.flatMap (zz_wr zt_hh zp_P zt_cl zm_88.1.1.cls)).all goodWord = true := by decide +kernel
set_option maxRecDepth 100000 in
theorem zr_88_1 : (zl_88_1.flatMap (zz_wn zp_P zm_88.1.1.cls)).map some = ([1295, 1291, 1295] : List Nat).map (fun i => lw_tbl[i]?) := by rfl
set_option maxRecDepth 100000 in
theorem zs_88_1 : (zl_88_1.flatMap (zz_wn zp_P zm_88.1.1.cls)).all zz_isN = true := by decide +kernel
set_option maxRecDepth 100000 in
theorem zb_88_1 : zl_88_1.all (fun r => zz_wb zt_hh zp_P zt_cl zt_tf zt_fd zt_nf zm_88.1.1.cls zm_88.1.1.name r) = true := by decide +kernel
set_option maxRecDepth 100000 in
theorem zd_88_2 : ∀ r ∈ zl_88_2, decode zm_88.1.2.1 r.1 = .ok (r.2.1, r.2.2.1) := by decide +kernel
set_option maxRecDepth 100000 in
theorem zq_88_2 : (zl_88_2.flatMap (zz_wr zt_hh zp_P zt_cl zm_88.1.1.cls)).map some = ([1374, 70, 1372, 1117] : List Nat).map (fun i => lw_tbl[i]?) := by rfl
set_option maxRecDepth 100000 in
theorem zg_88_2 : (zl_88_2.flatMap (zz_wr zt_hh zp_P zt_cl zm_88.1.1.cls)).all goodWord = true := by decide +kernel
set_option maxRecDepth 100000 in
theorem zr_88_2 : (zl_88_2.flatMap (zz_wn zp_P zm_88.1.1.cls)).map some = ([1292] : List Nat).map (fun i => lw_tbl[i]?) := by rfl
set_option maxRecDepth 100000 in
theorem zs_88_2 : (zl_88_2.flatMap (zz_wn zp_P zm_88.1.1.cls)).all zz_isN = true := by decide +kernel
set_option maxRecDepth 100000 in
theorem zb_88_2 : zl_88_2.all (fun r => zz_wb zt_hh zp_P zt_cl zt_tf zt_fd zt_nf zm_88.1.1.cls zm_88.1.1.name r) = true := by decide +kernel
set_option maxRecDepth 100000 in
theorem zy_88_0 : zl_88_0.all (fun r => zz_tb zt_hh zp_P zm_88 r) = true := by decide +kernel
set_option maxRecDepth 100000 in
theorem zy_88_1 : zl_88_1.all (fun r => zz_tb zt_hh zp_P zm_88 r) = true := by decide +kernel
set_option maxRecDepth 100000 in
theorem zy_88_2 : zl_88_2.all (fun r => zz_tb zt_hh zp_P zm_88 r) = true := by decide +kernel
theorem zw_88 : zz_okW zt_hh zp_P zt_cl zt_tf zt_fd zt_nf zt_T zt_N zm_88 := List.forall_mem_cons.mpr ⟨(zz_w_okL zd_88_0 zb_88_0 (zz_places goodWord zq_88_0 zg_88_0) (zz_places zz_isN zr_88_0 zs_88_0) zy_88_0), List.forall_mem_cons.mpr ⟨(zz_w_okL zd_88_1 zb_88_1 (zz_places goodWord zq_88_1 zg_88_1) (zz_places zz_isN zr_88_1 zs_88_1) zy_88_1), List.forall_mem_cons.mpr ⟨(zz_w_okL zd_88_2 zb_88_2 (zz_places goodWord zq_88_2 zg_88_2) (zz_places zz_isN zr_88_2 zs_88_2) zy_88_2), (fun _ h => absurd h List.not_mem_nil)⟩⟩⟩
set_option maxRecDepth 100000 in
theorem zq_88 : [zz_cw zt_hh zm_88, Cond.initialized zm_88.1.1.cls].map some = ([1284, 226] : List Nat).map (fun i => lw_tbl[i]?) := by rfl
set_option maxRecDepth 100000 in
theorem zg_88 : [zz_cw zt_hh zm_88, Cond.initialized zm_88.1.1.cls].all goodWord = true := by decide +kernel
set_option maxRecDepth 100000 in
theorem zb_88 : (plainName zm_88.1.1.cls && (decide (zm_88.1.1.cls ≠ "java/lang/invoke/MethodHandle" ∧ zm_88.1.1.cls ≠ "java/lang/invoke/VarHandle") && decide (zm_88.1.2.2.1 ≤ 40))) = true := by decide +kernel
theorem zo_88 : zz_okM zt_hh zp_P zt_cl zt_tf zt_fd zt_nf zt_T zt_N zm_88 := zz_w_okM zw_88 zb_88 (zz_places goodWord zq_88 zg_88)
set_option maxRecDepth 100000 in
theorem zd_89_0 : ∀ r ∈ zl_89_0, decode zm_89.1.2.1 r.1 = .ok (r.2.1, r.2.2.1) := by decide +kernel
set_option maxRecDepth 100000 in
theorem zq_89_0 : (zl_89_0.flatMap (zz_wr zt_hh zp_P zt_cl zm_89.1.1.cls)).map some = ([1285, 990, 1286, 987, 989, 990, 231, 1386, 72, 1384, 1390, 73, 1388, 1394, 74, 1392, 1401, 75, 1399, 1415, 76, 1413, 1423, 78, 1421, 1427, 79, 1425] : List Nat).map (fun i => lw_tbl[i]?) := by rfl
set_option maxRecDepth 100000 in
theorem zg_89_0 : (zl_89_0.flatMap (zz_wr zt_hh zp_P zt_cl zm_89.1.1.cls)).all goodWord = true := by decide +kernel
set_option maxRecDepth 100000 in
theorem zr_89_0 : (zl_89_0.flatMap (zz_wn zp_P zm_89.1.1.cls)).map some = ([] : List Nat).map (fun i => lw_tbl[i]?) := by rfl
set_option maxRecDepth 100000 in
theorem zs_89_0 : (zl_89_0.flatMap (zz_wn zp_P zm_89.1.1.cls)).all zz_isN = true := by decide +kernel
set_option maxRecDepth 100000 in
theorem zb_89_0 : zl_89_0.all (fun r => zz_wb zt_hh zp_P zt_cl zt_tf zt_fd zt_nf zm_89.1.1.cls zm_89.1.1.name r) = true := by decide +kernel
set_option maxRecDepth 100000 in
theorem zd_89_1 : ∀ r ∈ zl_89_1, decode zm_89.1.2.1 r.1 = .ok (r.2.1, r.2.2.1) := by decide +kernel
set_option maxRecDepth 100000 in
theorem zq_89_1 : (zl_89_1.flatMap (zz_wr zt_hh zp_P zt_cl zm_89.1.1.cls)).map some = ([1435, 81, 1433, 1443, 83, 1441, 479, 1450, 1451, 1449, 1088, 1117] : List Nat).map (fun i => lw_tbl[i]?) := by rfl
set_option maxRecDepth 100000 in
theorem zg_89_1 : (zl_89_1.flatMap (zz_wr zt_hh zp_P zt_cl zm_89.1.1.cls)).all goodWord = true := by decide +kernel
set_option maxRecDepth 100000 in
theorem zr_89_1 : (zl_89_1.flatMap (zz_wn zp_P zm_89.1.1.cls)).map some = ([1295, 1292] : List Nat).map (fun i => lw_tbl[i]?) := by rfl
set_option maxRecDepth 100000 in
theorem zs_89_1 : (zl_89_1.flatMap (zz_wn zp_P zm_89.1.1.cls)).all zz_isN = true := by decide +kernel
set_option maxRecDepth 100000 in
theorem zb_89_1 : zl_89_1.all (fun r => zz_wb zt_hh zp_P zt_cl zt_tf zt_fd zt_nf zm_89.1.1.cls zm_89.1.1.name r) = true := by decide +kernel
set_option maxRecDepth 100000 in
theorem zy_89_0 : zl_89_0.all (fun r => zz_tb zt_hh zp_P zm_89 r) = true := by decide +kernel
set_option maxRecDepth 100000 in
theorem zy_89_1 : zl_89_1.all (fun r => zz_tb zt_hh zp_P zm_89 r) = true := by decide +kernel
theorem zw_89 : zz_okW zt_hh zp_P zt_cl zt_tf zt_fd zt_nf zt_T zt_N zm_89 := List.forall_mem_cons.mpr ⟨(zz_w_okL zd_89_0 zb_89_0 (zz_places goodWord zq_89_0 zg_89_0) (zz_places zz_isN zr_89_0 zs_89_0) zy_89_0), List.forall_mem_cons.mpr ⟨(zz_w_okL zd_89_1 zb_89_1 (zz_places goodWord zq_89_1 zg_89_1) (zz_places zz_isN zr_89_1 zs_89_1) zy_89_1), (fun _ h => absurd h List.not_mem_nil)⟩⟩
set_option maxRecDepth 100000 in
theorem zq_89 : [zz_cw zt_hh zm_89, Cond.initialized zm_89.1.1.cls].map some = ([1383, 226] : List Nat).map (fun i => lw_tbl[i]?) := by rfl
set_option maxRecDepth 100000 in
theorem zg_89 : [zz_cw zt_hh zm_89, Cond.initialized zm_89.1.1.cls].all goodWord = true := by decide +kernel
set_option maxRecDepth 100000 in
theorem zb_89 : (plainName zm_89.1.1.cls && (decide (zm_89.1.1.cls ≠ "java/lang/invoke/MethodHandle" ∧ zm_89.1.1.cls ≠ "java/lang/invoke/VarHandle") && decide (zm_89.1.2.2.1 ≤ 40))) = true := by decide +kernel
theorem zo_89 : zz_okM zt_hh zp_P zt_cl zt_tf zt_fd zt_nf zt_T zt_N zm_89 := zz_w_okM zw_89 zb_89 (zz_places goodWord zq_89 zg_89)
set_option maxRecDepth 100000 in
theorem zd_90_0 : ∀ r ∈ zl_90_0, decode zm_90.1.2.1 r.1 = .ok (r.2.1, r.2.2.1) := by decide +kernel
set_option maxRecDepth 100000 in
theorem zq_90_0 : (zl_90_0.flatMap (zz_wr zt_hh zp_P zt_cl zm_90.1.1.cls)).map some = ([1210, 1117, 1228, 1117, 1117, 479, 1104, 1105, 1294, 479, 1088, 1108, 1109, 1296] : List Nat).map (fun i => lw_tbl[i]?) := by rfl
set_option maxRecDepth 100000 in
theorem zg_90_0 : (zl_90_0.flatMap (zz_wr zt_hh zp_P zt_cl zm_90.1.1.cls)).all goodWord = true := by decide +kernel
set_option maxRecDepth 100000 in
theorem zr_90_0 : (zl_90_0.flatMap (zz_wn zp_P zm_90.1.1.cls)).map some = ([1291, 1292, 1293, 1292, 1292, 1295] : List Nat).map (fun i => lw_tbl[i]?) := by rfl
set_option maxRecDepth 100000 in
theorem zs_90_0 : (zl_90_0.flatMap (zz_wn zp_P zm_90.1.1.cls)).all zz_isN = true := by decide +kernel
set_option maxRecDepth 100000 in
theorem zb_90_0 : zl_90_0.all (fun r => zz_wb zt_hh zp_P zt_cl zt_tf zt_fd zt_nf zm_90.1.1.cls zm_90.1.1.name r) = true := by decide +kernel
set_option maxRecDepth 100000 in
theorem zd_90_1 : ∀ r ∈ zl_90_1, decode zm_90.1.2.1 r.1 = .ok (r.2.1, r.2.2.1) := by decide +kernel
set_option maxRecDepth 100000 in
theorem zq_90_1 : (zl_90_1.flatMap (zz_wr zt_hh zp_P zt_cl zm_90.1.1.cls)).map some = ([479, 1113, 1114, 1297] : List Nat).map (fun i => lw_tbl[i]?) := by rfl
set_option maxRecDepth 100000 in
theorem zg_90_1 : (zl_90_1.flatMap (zz_wr zt_hh zp_P zt_cl zm_90.1.1.cls)).all goodWord = true := by decide +kernel
set_option maxRecDepth 100000 in
theorem zr_90_1 : (zl_90_1.flatMap (zz_wn zp_P zm_90.1.1.cls)).map some = ([] : List Nat).map (fun i => lw_tbl[i]?) := by rfl
set_option maxRecDepth 100000 in
theorem zs_90_1 : (zl_90_1.flatMap (zz_wn zp_P zm_90.1.1.cls)).all zz_isN = true := by decide +kernel
set_option maxRecDepth 100000 in
theorem zb_90_1 : zl_90_1.all (fun r => zz_wb zt_hh zp_P zt_cl zt_tf zt_fd zt_nf zm_90.1.1.cls zm_90.1.1.name r) = true := by decide +kernel
set_option maxRecDepth 100000 in
theorem zy_90_0 : zl_90_0.all (fun r => zz_tb zt_hh zp_P zm_90 r) = true := by decide +kernel
set_option maxRecDepth 100000 in
theorem zy_90_1 : zl_90_1.all (fun r => zz_tb zt_hh zp_P zm_90 r) = true := by decide +kernel
theorem zw_90 : zz_okW zt_hh zp_P zt_cl zt_tf zt_fd zt_nf zt_T zt_N zm_90 := List.forall_mem_cons.mpr ⟨(zz_w_okL zd_90_0 zb_90_0 (zz_places goodWord zq_90_0 zg_90_0) (zz_places zz_isN zr_90_0 zs_90_0) zy_90_0), List.forall_mem_cons.mpr ⟨(zz_w_okL zd_90_1 zb_90_1 (zz_places goodWord zq_90_1 zg_90_1) (zz_places zz_isN zr_90_1 zs_90_1) zy_90_1), (fun _ h => absurd h List.not_mem_nil)⟩⟩
set_option maxRecDepth 100000 in
theorem zq_90 : [zz_cw zt_hh zm_90, Cond.initialized zm_90.1.1.cls].map some = ([1290, 226] : List Nat).map (fun i => lw_tbl[i]?) := by rfl
set_option maxRecDepth 100000 in
theorem zg_90 : [zz_cw zt_hh zm_90, Cond.initialized zm_90.1.1.cls].all goodWord = true := by decide +kernel
set_option maxRecDepth 100000 in
theorem zb_90 : (plainName zm_90.1.1.cls && (decide (zm_90.1.1.cls ≠ "java/lang/invoke/MethodHandle" ∧ zm_90.1.1.cls ≠ "java/lang/invoke/VarHandle") && decide (zm_90.1.2.2.1 ≤ 40))) = true := by decide +kernel
theorem zo_90 : zz_okM zt_hh zp_P zt_cl zt_tf zt_fd zt_nf zt_T zt_N zm_90 := zz_w_okM zw_90 zb_90 (zz_places goodWord zq_90 zg_90)
set_option maxRecDepth 100000 in
theorem zd_91_0 : ∀ r ∈ zl_91_0, decode zm_91.1.2.1 r.1 = .ok (r.2.1, r.2.2.1) := by decide +kernel
set_option maxRecDepth 100000 in
theorem zq_91_0 : (zl_91_0.flatMap (zz_wr zt_hh zp_P zt_cl zm_91.1.1.cls)).map some = ([479, 1104, 1105, 1294, 479, 1088, 1108, 1109, 1296, 479, 1113, 1114, 1297] : List Nat).map (fun i => lw_tbl[i]?) := by rfl
set_option maxRecDepth 100000 in
theorem zg_91_0 : (zl_91_0.flatMap (zz_wr zt_hh zp_P zt_cl zm_91.1.1.cls)).all goodWord = true := by decide +kernel
set_option maxRecDepth 100000 in
theorem zr_91_0 : (zl_91_0.flatMap (zz_wn zp_P zm_91.1.1.cls)).map some = ([1295] : List Nat).map (fun i => lw_tbl[i]?) := by rfl
set_option maxRecDepth 100000 in
theorem zs_91_0 : (zl_91_0.flatMap (zz_wn zp_P zm_91.1.1.cls)).all zz_isN = true := by decide +kernel
set_option maxRecDepth 100000 in
theorem zb_91_0 : zl_91_0.all (fun r => zz_wb zt_hh zp_P zt_cl zt_tf zt_fd zt_nf zm_91.1.1.cls zm_91.1.1.name r) = true := by decide +kernel
set_option maxRecDepth 100000 in
theorem zy_91_0 : zl_91_0.all (fun r => zz_tb zt_hh zp_P zm_91 r) = true := by decide +kernel
theorem zw_91 : zz_okW zt_hh zp_P zt_cl zt_tf zt_fd zt_nf zt_T zt_N zm_91 := List.forall_mem_cons.mpr ⟨(zz_w_okL zd_91_0 zb_91_0 (zz_places goodWord zq_91_0 zg_91_0) (zz_places zz_isN zr_91_0 zs_91_0) zy_91_0), (fun _ h => absurd h List.not_mem_nil)⟩
set_option maxRecDepth 100000 in
theorem zq_91 : [zz_cw zt_hh zm_91, Cond.initialized zm_91.1.1.cls].map some = ([1310, 226] : List Nat).map (fun i => lw_tbl[i]?) := by rfl
set_option maxRecDepth 100000 in
theorem zg_91 : [zz_cw zt_hh zm_91, Cond.initialized zm_91.1.1.cls].all goodWord = true := by decide +kernel
set_option maxRecDepth 100000 in
theorem zb_91 : (plainName zm_91.1.1.cls && (decide (zm_91.1.1.cls ≠ "java/lang/invoke/MethodHandle" ∧ zm_91.1.1.cls ≠ "java/lang/invoke/VarHandle") && decide (zm_91.1.2.2.1 ≤ 40))) = true := by decide +kernel
theorem zo_91 : zz_okM zt_hh zp_P zt_cl zt_tf zt_fd zt_nf zt_T zt_N zm_91 := zz_w_okM zw_91 zb_91 (zz_places goodWord zq_91 zg_91)
set_option maxRecDepth 100000 in
theorem zd_92_0 : ∀ r ∈ zl_92_0, decode zm_92.1.2.1 r.1 = .ok (r.2.1, r.2.2.1) := by decide +kernel
set_option maxRecDepth 100000 in
theorem zq_92_0 : (zl_92_0.flatMap (zz_wr zt_hh zp_P zt_cl zm_92.1.1.cls)).map some = ([1210, 1210, 1117, 1228, 1228, 1117, 1117] : List Nat).map (fun i => lw_tbl[i]?) := by rfl
set_option maxRecDepth 100000 in
theorem zg_92_0 : (zl_92_0.flatMap (zz_wr zt_hh zp_P zt_cl zm_92.1.1.cls)).all goodWord = true := by decide +kernel
set_option maxRecDepth 100000 in
theorem zr_92_0 : (zl_92_0.flatMap (zz_wn zp_P zm_92.1.1.cls)).map some = ([1291, 1291, 1292, 1293, 1293, 1292, 1292] : List Nat).map (fun i => lw_tbl[i]?) := by rfl
set_option maxRecDepth 100000 in
theorem zs_92_0 : (zl_92_0.flatMap (zz_wn zp_P zm_92.1.1.cls)).all zz_isN = true := by decide +kernel
set_option maxRecDepth 100000 in
theorem zb_92_0 : zl_92_0.all (fun r => zz_wb zt_hh zp_P zt_cl zt_tf zt_fd zt_nf zm_92.1.1.cls zm_92.1.1.name r) = true := by decide +kernel
set_option maxRecDepth 100000 in
theorem zd_92_1 : ∀ r ∈ zl_92_1, decode zm_92.1.2.1 r.1 = .ok (r.2.1, r.2.2.1) := by decide +kernel
set_option maxRecDepth 100000 in
theorem zq_92_1 : (zl_92_1.flatMap (zz_wr zt_hh zp_P zt_cl zm_92.1.1.cls)).map some = ([479, 1104, 1105, 1294, 479, 1309, 57, 1307, 1108, 1109, 1296, 479, 1113, 1114, 1297] : List Nat).map (fun i => lw_tbl[i]?) := by rfl
set_option maxRecDepth 100000 in
theorem zg_92_1 : (zl_92_1.flatMap (zz_wr zt_hh zp_P zt_cl zm_92.1.1.cls)).all goodWord = true := by decide +kernel
set_option maxRecDepth 100000 in
theorem zr_92_1 : (zl_92_1.flatMap (zz_wn zp_P zm_92.1.1.cls)).map some = ([] : List Nat).map (fun i => lw_tbl[i]?) := by rfl
set_option maxRecDepth 100000 in
theorem zs_92_1 : (zl_92_1.flatMap (zz_wn zp_P zm_92.1.1.cls)).all zz_isN = true := by decide +kernel
set_option maxRecDepth 100000 in
theorem zb_92_1 : zl_92_1.all (fun r => zz_wb zt_hh zp_P zt_cl zt_tf zt_fd zt_nf zm_92.1.1.cls zm_92.1.1.name r) = true := by decide +kernel
set_option maxRecDepth 100000 in
theorem zy_92_0 : zl_92_0.all (fun r => zz_tb zt_hh zp_P zm_92 r) = true := by decide +kernel
set_option maxRecDepth 100000 in
theorem zy_92_1 : zl_92_1.all (fun r => zz_tb zt_hh zp_P zm_92 r) = true := by decide +kernel
theorem zw_92 : zz_okW zt_hh zp_P zt_cl zt_tf zt_fd zt_nf zt_T zt_N zm_92 := List.forall_mem_cons.mpr ⟨(zz_w_okL zd_92_0 zb_92_0 (zz_places goodWord zq_92_0 zg_92_0) (zz_places zz_isN zr_92_0 zs_92_0) zy_92_0), List.forall_mem_cons.mpr ⟨(zz_w_okL zd_92_1 zb_92_1 (zz_places goodWord zq_92_1 zg_92_1) (zz_places zz_isN zr_92_1 zs_92_1) zy_92_1), (fun _ h => absurd h List.not_mem_nil)⟩⟩
set_option maxRecDepth 100000 in
theorem zq_92 : [zz_cw zt_hh zm_92, Cond.initialized zm_92.1.1.cls].map some = ([1387, 226] : List Nat).map (fun i => lw_tbl[i]?) := by rfl
set_option maxRecDepth 100000 in
theorem zg_92 : [zz_cw zt_hh zm_92, Cond.initialized zm_92.1.1.cls].all goodWord = true := by decide +kernel
set_option maxRecDepth 100000 in
theorem zb_92 : (plainName zm_92.1.1.cls && (decide (zm_92.1.1.cls ≠ "java/lang/invoke/MethodHandle" ∧ zm_92.1.1.cls ≠ "java/lang/invoke/VarHandle") && decide (zm_92.1.2.2.1 ≤ 40))) = true := by decide +kernel
theorem zo_92 : zz_okM zt_hh zp_P zt_cl zt_tf zt_fd zt_nf zt_T zt_N zm_92 := zz_w_okM zw_92 zb_92 (zz_places goodWord zq_92 zg_92)
set_option maxRecDepth 100000 in
theorem zd_93_0 : ∀ r ∈ zl_93_0, decode zm_93.1.2.1 r.1 = .ok (r.2.1, r.2.2.1) := by decide +kernel
set_option maxRecDepth 100000 in
theorem zq_93_0 : (zl_93_0.flatMap (zz_wr zt_hh zp_P zt_cl zm_93.1.1.cls)).map some = ([1210, 1117, 479, 1125, 1126, 1302, 479, 1248, 1249, 1303, 1304, 701, 228, 702, 1305, 592, 228, 593] : List Nat).map (fun i => lw_tbl[i]?) := by rfl
set_option maxRecDepth 100000 in
theorem zg_93_0 : (zl_93_0.flatMap (zz_wr zt_hh zp_P zt_cl zm_93.1.1.cls)).all goodWord = true := by decide +kernel
set_option maxRecDepth 100000 in
theorem zr_93_0 : (zl_93_0.flatMap (zz_wn zp_P zm_93.1.1.cls)).map some = ([1291, 1292] : List Nat).map (fun i => lw_tbl[i]?) := by rfl
set_option maxRecDepth 100000 in
theorem zs_93_0 : (zl_93_0.flatMap (zz_wn zp_P zm_93.1.1.cls)).all zz_isN = true := by decide +kernel
set_option maxRecDepth 100000 in
theorem zb_93_0 : zl_93_0.all (fun r => zz_wb zt_hh zp_P zt_cl zt_tf zt_fd zt_nf zm_93.1.1.cls zm_93.1.1.name r) = true := by decide +kernel
set_option maxRecDepth 100000 in
theorem zd_93_1 : ∀ r ∈ zl_93_1, decode zm_93.1.2.1 r.1 = .ok (r.2.1, r.2.2.1) := by decide +kernel
set_option maxRecDepth 100000 in
theorem zq_93_1 : (zl_93_1.flatMap (zz_wr zt_hh zp_P zt_cl zm_93.1.1.cls)).map some = ([1304, 701, 228, 702, 1306, 1117, 1117, 479, 1104, 1105, 1294, 479, 479] : List Nat).map (fun i => lw_tbl[i]?) := by rfl
set_option maxRecDepth 100000 in
theorem zg_93_1 : (zl_93_1.flatMap (zz_wr zt_hh zp_P zt_cl zm_93.1.1.cls)).all goodWord = true := by decide +kernel
set_option maxRecDepth 100000 in
theorem zr_93_1 : (zl_93_1.flatMap (zz_wn zp_P zm_93.1.1.cls)).map some = ([1292, 1292] : List Nat).map (fun i => lw_tbl[i]?) := by rfl
set_option maxRecDepth 100000 in
theorem zs_93_1 : (zl_93_1.flatMap (zz_wn zp_P zm_93.1.1.cls)).all zz_isN = true := by decide +kernel
set_option maxRecDepth 100000 in
theorem zb_93_1 : zl_93_1.all (fun r => zz_wb zt_hh zp_P zt_cl zt_tf zt_fd zt_nf zm_93.1.1.cls zm_93.1.1.name r) = true := by decide +kernel
set_option maxRecDepth 100000 in
theorem zd_93_2 : ∀ r ∈ zl_93_2, decode zm_93.1.2.1 r.1 = .ok (r.2.1, r.2.2.1) := by decide +kernel
set_option maxRecDepth 100000 in
theorem zq_93_2 : (zl_93_2.flatMap (zz_wr zt_hh zp_P zt_cl zm_93.1.1.cls)).map some = ([1248, 1249, 1303, 1309, 57, 1307, 1108, 1109, 1296, 479, 1113, 1114, 1297] : List Nat).map (fun i => lw_tbl[i]?) := by rfl
set_option maxRecDepth 100000 in
theorem zg_93_2 : (zl_93_2.flatMap (zz_wr zt_hh zp_P zt_cl zm_93.1.1.cls)).all goodWord = true := by decide +kernel
set_option maxRecDepth 100000 in
theorem zr_93_2 : (zl_93_2.flatMap (zz_wn zp_P zm_93.1.1.cls)).map some = ([] : List Nat).map (fun i => lw_tbl[i]?) := by rfl
set_option maxRecDepth 100000 in
theorem zs_93_2 : (zl_93_2.flatMap (zz_wn zp_P zm_93.1.1.cls)).all zz_isN = true := by decide +kernel
set_option maxRecDepth 100000 in
theorem zb_93_2 : zl_93_2.all (fun r => zz_wb zt_hh zp_P zt_cl zt_tf zt_fd zt_nf zm_93.1.1.cls zm_93.1.1.name r) = true := by decide +kernel
set_option maxRecDepth 100000 in
theorem zy_93_0 : zl_93_0.all (fun r => zz_tb zt_hh zp_P zm_93 r) = true := by decide +kernel
set_option maxRecDepth 100000 in
theorem zy_93_1 : zl_93_1.all (fun r => zz_tb zt_hh zp_P zm_93 r) = true := by decide +kernel
set_option maxRecDepth 100000 in
theorem zy_93_2 : zl_93_2.all (fun r => zz_tb zt_hh zp_P zm_93 r) = true := by decide +kernel
theorem zw_93 : zz_okW zt_hh zp_P zt_cl zt_tf zt_fd zt_nf zt_T zt_N zm_93 := List.forall_mem_cons.mpr ⟨(zz_w_okL zd_93_0 zb_93_0 (zz_places goodWord zq_93_0 zg_93_0) (zz_places zz_isN zr_93_0 zs_93_0) zy_93_0), List.forall_mem_cons.mpr ⟨(zz_w_okL zd_93_1 zb_93_1 (zz_places goodWord zq_93_1 zg_93_1) (zz_places zz_isN zr_93_1 zs_93_1) zy_93_1), List.forall_mem_cons.mpr ⟨(zz_w_okL zd_93_2 zb_93_2 (zz_places goodWord zq_93_2 zg_93_2) (zz_places zz_isN zr_93_2 zs_93_2) zy_93_2), (fun _ h => absurd h List.not_mem_nil)⟩⟩⟩
set_option maxRecDepth 100000 in
theorem zq_93 : [zz_cw zt_hh zm_93, Cond.initialized zm_93.1.1.cls].map some = ([1301, 226] : List Nat).map (fun i => lw_tbl[i]?) := by rfl
set_option maxRecDepth 100000 in
theorem zg_93 : [zz_cw zt_hh zm_93, Cond.initialized zm_93.1.1.cls].all goodWord = true := by decide +kernel
set_option maxRecDepth 100000 in
theorem zb_93 : (plainName zm_93.1.1.cls && (decide (zm_93.1.1.cls ≠ "java/lang/invoke/MethodHandle" ∧ zm_93.1.1.cls ≠ "java/lang/invoke/VarHandle") && decide (zm_93.1.2.2.1 ≤ 40))) = true := by decide +kernel
theorem zo_93 : zz_okM zt_hh zp_P zt_cl zt_tf zt_fd zt_nf zt_T zt_N zm_93 := zz_w_okM zw_93 zb_93 (zz_places goodWord zq_93 zg_93)
set_option maxRecDepth 100000 in
theorem zd_94_0 : ∀ r ∈ zl_94_0, decode zm_94.1.2.1 r.1 = .ok (r.2.1, r.2.2.1) := by decide +kernel
set_option maxRecDepth 100000 in
theorem zq_94_0 : (zl_94_0.flatMap (zz_wr zt_hh zp_P zt_cl zm_94.1.1.cls)).map some = ([1210, 1117, 479, 1125, 1126, 1302, 479, 1104, 1105, 1294, 479, 479, 479, 1223, 1224, 1315, 1125, 1126, 1302, 1088, 1108, 1109, 1296, 479] : List Nat).map (fun i => lw_tbl[i]?) := by rfl
set_option maxRecDepth 100000 in
theorem zg_94_0 : (zl_94_0.flatMap (zz_wr zt_hh zp_P zt_cl zm_94.1.1.cls)).all goodWord = true := by decide +kernel
set_option maxRecDepth 100000 in
theorem zr_94_0 : (zl_94_0.flatMap (zz_wn zp_P zm_94.1.1.cls)).map some = ([1291, 1292, 1295] : List Nat).map (fun i => lw_tbl[i]?) := by rfl
set_option maxRecDepth 100000 in
theorem zs_94_0 : (zl_94_0.flatMap (zz_wn zp_P zm_94.1.1.cls)).all zz_isN = true := by decide +kernel
set_option maxRecDepth 100000 in
theorem zb_94_0 : zl_94_0.all (fun r => zz_wb zt_hh zp_P zt_cl zt_tf zt_fd zt_nf zm_94.1.1.cls zm_94.1.1.name r) = true := by decide +kernel
set_option maxRecDepth 100000 in
theorem zd_94_1 : ∀ r ∈ zl_94_1, decode zm_94.1.2.1 r.1 = .ok (r.2.1, r.2.2.1) := by decide +kernel
set_option maxRecDepth 100000 in
theorem zq_94_1 : (zl_94_1.flatMap (zz_wr zt_hh zp_P zt_cl zm_94.1.1.cls)).map some = ([1113, 1114, 1297] : List Nat).map (fun i => lw_tbl[i]?) := by rfl
set_option maxRecDepth 100000 in
theorem zg_94_1 : (zl_94_1.flatMap (zz_wr zt_hh zp_P zt_cl zm_94.1.1.cls)).all goodWord = true := by decide +kernel
set_option maxRecDepth 100000 in
theorem zr_94_1 : (zl_94_1.flatMap (zz_wn zp_P zm_94.1.1.cls)).map some = ([] : List Nat).map (fun i => lw_tbl[i]?) := by rfl
set_option maxRecDepth 100000 in
theorem zs_94_1 : (zl_94_1.flatMap (zz_wn zp_P zm_94.1.1.cls)).all zz_isN = true := by decide +kernel
set_option maxRecDepth 100000 in
theorem zb_94_1 : zl_94_1.all (fun r => zz_wb zt_hh zp_P zt_cl zt_tf zt_fd zt_nf zm_94.1.1.cls zm_94.1.1.name r) = true := by decide +kernel
set_option maxRecDepth 100000 in
theorem zy_94_0 : zl_94_0.all (fun r => zz_tb zt_hh zp_P zm_94 r) = true := by decide +kernel
set_option maxRecDepth 100000 in
theorem zy_94_1 : zl_94_1.all (fun r => zz_tb zt_hh zp_P zm_94 r) = true := by decide +kernel
theorem zw_94 : zz_okW zt_hh zp_P zt_cl zt_tf zt_fd zt_nf zt_T zt_N zm_94 := List.forall_mem_cons.mpr ⟨(zz_w_okL zd_94_0 zb_94_0 (zz_places goodWord zq_94_0 zg_94_0) (zz_places zz_isN zr_94_0 zs_94_0) zy_94_0), List.forall_mem_cons.mpr ⟨(zz_w_okL zd_94_1 zb_94_1 (zz_places goodWord zq_94_1 zg_94_1) (zz_places zz_isN zr_94_1 zs_94_1) zy_94_1), (fun _ h => absurd h List.not_mem_nil)⟩⟩
set_option maxRecDepth 100000 in
theorem zq_94 : [zz_cw zt_hh zm_94, Cond.initialized zm_94.1.1.cls].map some = ([1314, 226] : List Nat).map (fun i => lw_tbl[i]?) := by rfl
set_option maxRecDepth 100000 in
theorem zg_94 : [zz_cw zt_hh zm_94, Cond.initialized zm_94.1.1.cls].all goodWord = true := by decide +kernel
set_option maxRecDepth 100000 in
theorem zb_94 : (plainName zm_94.1.1.cls && (decide (zm_94.1.1.cls ≠ "java/lang/invoke/MethodHandle" ∧ zm_94.1.1.cls ≠ "java/lang/invoke/VarHandle") && decide (zm_94.1.2.2.1 ≤ 40))) = true := by decide +kernel
theorem zo_94 : zz_okM zt_hh zp_P zt_cl zt_tf zt_fd zt_nf zt_T zt_N zm_94 := zz_w_okM zw_94 zb_94 (zz_places goodWord zq_94 zg_94)
set_option maxRecDepth 100000 in
theorem zd_95_0 : ∀ r ∈ zl_95_0, decode zm_95.1.2.1 r.1 = .ok (r.2.1, r.2.2.1) := by decide +kernel
set_option maxRecDepth 100000 in
theorem zq_95_0 : (zl_95_0.flatMap (zz_wr zt_hh zp_P zt_cl zm_95.1.1.cls)).map some = ([1210, 1320, 1210, 1324, 60, 1322, 1210, 1117, 479, 1125, 1126, 1302, 479, 1104, 1105, 1294] : List Nat).map (fun i => lw_tbl[i]?) := by rfl
set_option maxRecDepth 100000 in
theorem zg_95_0 : (zl_95_0.flatMap (zz_wr zt_hh zp_P zt_cl zm_95.1.1.cls)).all goodWord = true := by decide +kernel
set_option maxRecDepth 100000 in
theorem zr_95_0 : (zl_95_0.flatMap (zz_wn zp_P zm_95.1.1.cls)).map some = ([1291, 1291, 1291, 1292] : List Nat).map (fun i => lw_tbl[i]?) := by rfl
set_option maxRecDepth 100000 in
theorem zs_95_0 : (zl_95_0.flatMap (zz_wn zp_P zm_95.1.1.cls)).all zz_isN = true := by decide +kernel
set_option maxRecDepth 100000 in
theorem zb_95_0 : zl_95_0.all (fun r => zz_wb zt_hh zp_P zt_cl zt_tf zt_fd zt_nf zm_95.1.1.cls zm_95.1.1.name r) = true := by decide +kernel
set_option maxRecDepth 100000 in
theorem zd_95_1 : ∀ r ∈ zl_95_1, decode zm_95.1.2.1 r.1 = .ok (r.2.1, r.2.2.1) := by decide +kernel
set_option maxRecDepth 100000 in
theorem zq_95_1 : (zl_95_1.flatMap (zz_wr zt_hh zp_P zt_cl zm_95.1.1.cls)).map some = ([479, 1223, 1224, 1315, 1324, 60, 1322, 1210, 479, 1108, 1109, 1296, 479, 1113, 1114, 1297] : List Nat).map (fun i => lw_tbl[i]?) := by rfl
set_option maxRecDepth 100000 in
theorem zg_95_1 : (zl_95_1.flatMap (zz_wr zt_hh zp_P zt_cl zm_95.1.1.cls)).all goodWord = true := by decide +kernel
set_option maxRecDepth 100000 in
theorem zr_95_1 : (zl_95_1.flatMap (zz_wn zp_P zm_95.1.1.cls)).map some = ([1291] : List Nat).map (fun i => lw_tbl[i]?) := by rfl
set_option maxRecDepth 100000 in
theorem zs_95_1 : (zl_95_1.flatMap (zz_wn zp_P zm_95.1.1.cls)).all zz_isN = true := by decide +kernel
set_option maxRecDepth 100000 in
theorem zb_95_1 : zl_95_1.all (fun r => zz_wb zt_hh zp_P zt_cl zt_tf zt_fd zt_nf zm_95.1.1.cls zm_95.1.1.name r) = true := by decide +kernel
set_option maxRecDepth 100000 in
theorem zy_95_0 : zl_95_0.all (fun r => zz_tb zt_hh zp_P zm_95 r) = true := by decide +kernel
set_option maxRecDepth 100000 in
theorem zy_95_1 : zl_95_1.all (fun r => zz_tb zt_hh zp_P zm_95 r) = true := by decide +kernel
theorem zw_95 : zz_okW zt_hh zp_P zt_cl zt_tf zt_fd zt_nf zt_T zt_N zm_95 := List.forall_mem_cons.mpr ⟨(zz_w_okL zd_95_0 zb_95_0 (zz_places goodWord zq_95_0 zg_95_0) (zz_places zz_isN zr_95_0 zs_95_0) zy_95_0), List.forall_mem_cons.mpr ⟨(zz_w_okL zd_95_1 zb_95_1 (zz_places goodWord zq_95_1 zg_95_1) (zz_places zz_isN zr_95_1 zs_95_1) zy_95_1), (fun _ h => absurd h List.not_mem_nil)⟩⟩
set_option maxRecDepth 100000 in
theorem zq_95 : [zz_cw zt_hh zm_95, Cond.initialized zm_95.1.1.cls].map some = ([1319, 226] : List Nat).map (fun i => lw_tbl[i]?) := by rfl
set_option maxRecDepth 100000 in
theorem zg_95 : [zz_cw zt_hh zm_95, Cond.initialized zm_95.1.1.cls].all goodWord = true := by decide +kernel
set_option maxRecDepth 100000 in
theorem zb_95 : (plainName zm_95.1.1.cls && (decide (zm_95.1.1.cls ≠ "java/lang/invoke/MethodHandle" ∧ zm_95.1.1.cls ≠ "java/lang/invoke/VarHandle") && decide (zm_95.1.2.2.1 ≤ 40))) = true := by decide +kernel
theorem zo_95 : zz_okM zt_hh zp_P zt_cl zt_tf zt_fd zt_nf zt_T zt_N zm_95 := zz_w_okM zw_95 zb_95 (zz_places goodWord zq_95 zg_95)
set_option maxRecDepth 100000 in
theorem zd_96_0 : ∀ r ∈ zl_96_0, decode zm_96.1.2.1 r.1 = .ok (r.2.1, r.2.2.1) := by decide +kernel
set_option maxRecDepth 100000 in
theorem zq_96_0 : (zl_96_0.flatMap (zz_wr zt_hh zp_P zt_cl zm_96.1.1.cls)).map some = ([479, 1125, 1126, 1302, 1320, 1088, 1117, 479, 1248, 1249, 1303, 479, 1248, 1249, 1303, 1320] : List Nat).map (fun i => lw_tbl[i]?) := by rfl
set_option maxRecDepth 100000 in
theorem zg_96_0 : (zl_96_0.flatMap (zz_wr zt_hh zp_P zt_cl zm_96.1.1.cls)).all goodWord = true := by decide +kernel
set_option maxRecDepth 100000 in
theorem zr_96_0 : (zl_96_0.flatMap (zz_wn zp_P zm_96.1.1.cls)).map some = ([1295, 1292] : List Nat).map (fun i => lw_tbl[i]?) := by rfl
set_option maxRecDepth 100000 in
theorem zs_96_0 : (zl_96_0.flatMap (zz_wn zp_P zm_96.1.1.cls)).all zz_isN = true := by decide +kernel
set_option maxRecDepth 100000 in
theorem zb_96_0 : zl_96_0.all (fun r => zz_wb zt_hh zp_P zt_cl zt_tf zt_fd zt_nf zm_96.1.1.cls zm_96.1.1.name r) = true := by decide +kernel
set_option maxRecDepth 100000 in
theorem zd_96_1 : ∀ r ∈ zl_96_1, decode zm_96.1.2.1 r.1 = .ok (r.2.1, r.2.2.1) := by decide +kernel
set_option maxRecDepth 100000 in
theorem zq_96_1 : (zl_96_1.flatMap (zz_wr zt_hh zp_P zt_cl zm_96.1.1.cls)).map some = ([1326, 1304, 701, 228, 702, 1305, 592, 228, 593, 1088] : List Nat).map (fun i => lw_tbl[i]?) := by rfl
set_option maxRecDepth 100000 in
theorem zg_96_1 : (zl_96_1.flatMap (zz_wr zt_hh zp_P zt_cl zm_96.1.1.cls)).all goodWord = true := by decide +kernel
set_option maxRecDepth 100000 in
theorem zr_96_1 : (zl_96_1.flatMap (zz_wn zp_P zm_96.1.1.cls)).map some = ([1295] : List Nat).map (fun i => lw_tbl[i]?) := by rfl
set_option maxRecDepth 100000 in
theorem zs_96_1 : (zl_96_1.flatMap (zz_wn zp_P zm_96.1.1.cls)).all zz_isN = true := by decide +kernel
set_option maxRecDepth 100000 in
theorem zb_96_1 : zl_96_1.all (fun r => zz_wb zt_hh zp_P zt_cl zt_tf zt_fd zt_nf zm_96.1.1.cls zm_96.1.1.name r) = true := by decide +kernel
set_option maxRecDepth 100000 in
theorem zy_96_0 : zl_96_0.all (fun r => zz_tb zt_hh zp_P zm_96 r) = true := by decide +kernel
set_option maxRecDepth 100000 in
theorem zy_96_1 : zl_96_1.all (fun r => zz_tb zt_hh zp_P zm_96 r) = true := by decide +kernel
theorem zw_96 : zz_okW zt_hh zp_P zt_cl zt_tf zt_fd zt_nf zt_T zt_N zm_96 := List.forall_mem_cons.mpr ⟨(zz_w_okL zd_96_0 zb_96_0 (zz_places goodWord zq_96_0 zg_96_0) (zz_places zz_isN zr_96_0 zs_96_0) zy_96_0), List.forall_mem_cons.mpr ⟨(zz_w_okL zd_96_1 zb_96_1 (zz_places goodWord zq_96_1 zg_96_1) (zz_places zz_isN zr_96_1 zs_96_1) zy_96_1), (fun _ h => absurd h List.not_mem_nil)⟩⟩
set_option maxRecDepth 100000 in
theorem zq_96 : [zz_cw zt_hh zm_96, Cond.initialized zm_96.1.1.cls].map some = ([1325, 226] : List Nat).map (fun i => lw_tbl[i]?) := by rfl
set_option maxRecDepth 100000 in
theorem zg_96 : [zz_cw zt_hh zm_96, Cond.initialized zm_96.1.1.cls].all goodWord = true := by decide +kernel
set_option maxRecDepth 100000 in
theorem zb_96 : (plainName zm_96.1.1.cls && (decide (zm_96.1.1.cls ≠ "java/lang/invoke/MethodHandle" ∧ zm_96.1.1.cls ≠ "java/lang/invoke/VarHandle") && decide (zm_96.1.2.2.1 ≤ 40))) = true := by decide +kernel
theorem zo_96 : zz_okM zt_hh zp_P zt_cl zt_tf zt_fd zt_nf zt_T zt_N zm_96 := zz_w_okM zw_96 zb_96 (zz_places goodWord zq_96 zg_96)
set_option maxRecDepth 100000 in
theorem zd_97_0 : ∀ r ∈ zl_97_0, decode zm_97.1.2.1 r.1 = .ok (r.2.1, r.2.2.1) := by decide +kernel
set_option maxRecDepth 100000 in
theorem zq_97_0 : (zl_97_0.flatMap (zz_wr zt_hh zp_P zt_cl zm_97.1.1.cls)).map some = ([1210, 1334, 62, 1332, 1210, 1117, 479, 1125, 1126, 1302, 479, 1104, 1105, 1294, 479, 479, 1223, 1224, 1315, 1334, 62, 1332] : List Nat).map (fun i => lw_tbl[i]?) := by rfl
set_option maxRecDepth 100000 in
theorem zg_97_0 : (zl_97_0.flatMap (zz_wr zt_hh zp_P zt_cl zm_97.1.1.cls)).all goodWord = true := by decide +kernel
set_option maxRecDepth 100000 in
theorem zr_97_0 : (zl_97_0.flatMap (zz_wn zp_P zm_97.1.1.cls)).map some = ([1291, 1291, 1292] : List Nat).map (fun i => lw_tbl[i]?) := by rfl
set_option maxRecDepth 100000 in
theorem zs_97_0 : (zl_97_0.flatMap (zz_wn zp_P zm_97.1.1.cls)).all zz_isN = true := by decide +kernel
set_option maxRecDepth 100000 in
theorem zb_97_0 : zl_97_0.all (fun r => zz_wb zt_hh zp_P zt_cl zt_tf zt_fd zt_nf zm_97.1.1.cls zm_97.1.1.name r) = true := by decide +kernel
set_option maxRecDepth 100000 in
theorem zd_97_1 : ∀ r ∈ zl_97_1, decode zm_97.1.2.1 r.1 = .ok (r.2.1, r.2.2.1) := by decide +kernel
set_option maxRecDepth 100000 in
theorem zq_97_1 : (zl_97_1.flatMap (zz_wr zt_hh zp_P zt_cl zm_97.1.1.cls)).map some = ([1108, 1109, 1296, 479, 1113, 1114, 1297] : List Nat).map (fun i => lw_tbl[i]?) := by rfl
set_option maxRecDepth 100000 in
theorem zg_97_1 : (zl_97_1.flatMap (zz_wr zt_hh zp_P zt_cl zm_97.1.1.cls)).all goodWord = true := by decide +kernel
set_option maxRecDepth 100000 in
theorem zr_97_1 : (zl_97_1.flatMap (zz_wn zp_P zm_97.1.1.cls)).map some = ([] : List Nat).map (fun i => lw_tbl[i]?) := by rfl
set_option maxRecDepth 100000 in
theorem zs_97_1 : (zl_97_1.flatMap (zz_wn zp_P zm_97.1.1.cls)).all zz_isN = true := by decide +kernel
set_option maxRecDepth 100000 in
theorem zb_97_1 : zl_97_1.all (fun r => zz_wb zt_hh zp_P zt_cl zt_tf zt_fd zt_nf zm_97.1.1.cls zm_97.1.1.name r) = true := by decide +kernel
set_option maxRecDepth 100000 in
theorem zy_97_0 : zl_97_0.all (fun r => zz_tb zt_hh zp_P zm_97 r) = true := by decide +kernel
set_option maxRecDepth 100000 in
theorem zy_97_1 : zl_97_1.all (fun r => zz_tb zt_hh zp_P zm_97 r) = true := by decide +kernel
theorem zw_97 : zz_okW zt_hh zp_P zt_cl zt_tf zt_fd zt_nf zt_T zt_N zm_97 := List.forall_mem_cons.mpr ⟨(zz_w_okL zd_97_0 zb_97_0 (zz_places goodWord zq_97_0 zg_97_0) (zz_places zz_isN zr_97_0 zs_97_0) zy_97_0), List.forall_mem_cons.mpr ⟨(zz_w_okL zd_97_1 zb_97_1 (zz_places goodWord zq_97_1 zg_97_1) (zz_places zz_isN zr_97_1 zs_97_1) zy_97_1), (fun _ h => absurd h List.not_mem_nil)⟩⟩
set_option maxRecDepth 100000 in
theorem zq_97 : [zz_cw zt_hh zm_97, Cond.initialized zm_97.1.1.cls].map some = ([1331, 226] : List Nat).map (fun i => lw_tbl[i]?) := by rfl
set_option maxRecDepth 100000 in
theorem zg_97 : [zz_cw zt_hh zm_97, Cond.initialized zm_97.1.1.cls].all goodWord = true := by decide +kernel
set_option maxRecDepth 100000 in
theorem zb_97 : (plainName zm_97.1.1.cls && (decide (zm_97.1.1.cls ≠ "java/lang/invoke/MethodHandle" ∧ zm_97.1.1.cls ≠ "java/lang/invoke/VarHandle") && decide (zm_97.1.2.2.1 ≤ 40))) = true := by decide +kernel
theorem zo_97 : zz_okM zt_hh zp_P zt_cl zt_tf zt_fd zt_nf zt_T zt_N zm_97 := zz_w_okM zw_97 zb_97 (zz_places goodWord zq_97 zg_97)
set_option maxRecDepth 100000 in
theorem zd_98_0 : ∀ r ∈ zl_98_0, decode zm_98.1.2.1 r.1 = .ok (r.2.1, r.2.2.1) := by decide +kernel
set_option maxRecDepth 100000 in
theorem zq_98_0 : (zl_98_0.flatMap (zz_wr zt_hh zp_P zt_cl zm_98.1.1.cls)).map some = ([479, 1125, 1126, 1302, 479, 1104, 1105, 1294, 1336, 1340, 63, 1338, 479, 1248, 1249, 1303, 479, 1336, 479] : List Nat).map (fun i => lw_tbl[i]?) := by rfl
set_option maxRecDepth 100000 in
theorem zg_98_0 : (zl_98_0.flatMap (zz_wr zt_hh zp_P zt_cl zm_98.1.1.cls)).all goodWord = true := by decide +kernel
set_option maxRecDepth 100000 in
theorem zr_98_0 : (zl_98_0.flatMap (zz_wn zp_P zm_98.1.1.cls)).map some = ([] : List Nat).map (fun i => lw_tbl[i]?) := by rfl
set_option maxRecDepth 100000 in
theorem zs_98_0 : (zl_98_0.flatMap (zz_wn zp_P zm_98.1.1.cls)).all zz_isN = true := by decide +kernel
set_option maxRecDepth 100000 in
theorem zb_98_0 : zl_98_0.all (fun r => zz_wb zt_hh zp_P zt_cl zt_tf zt_fd zt_nf zm_98.1.1.cls zm_98.1.1.name r) = true := by decide +kernel
set_option maxRecDepth 100000 in
theorem zd_98_1 : ∀ r ∈ zl_98_1, decode zm_98.1.2.1 r.1 = .ok (r.2.1, r.2.2.1) := by decide +kernel
set_option maxRecDepth 100000 in
theorem zq_98_1 : (zl_98_1.flatMap (zz_wr zt_hh zp_P zt_cl zm_98.1.1.cls)).map some = ([1344, 64, 1342, 1248, 1249, 1303, 1088, 1108, 1109, 1296, 479, 1113, 1114, 1297] : List Nat).map (fun i => lw_tbl[i]?) := by rfl
set_option maxRecDepth 100000 in
theorem zg_98_1 : (zl_98_1.flatMap (zz_wr zt_hh zp_P zt_cl zm_98.1.1.cls)).all goodWord = true := by decide +kernel
set_option maxRecDepth 100000 in
theorem zr_98_1 : (zl_98_1.flatMap (zz_wn zp_P zm_98.1.1.cls)).map some = ([1295] : List Nat).map (fun i => lw_tbl[i]?) := by rfl
set_option maxRecDepth 100000 in
theorem zs_98_1 : (zl_98_1.flatMap (zz_wn zp_P zm_98.1.1.cls)).all zz_isN = true := by decide +kernel
set_option maxRecDepth 100000 in
theorem zb_98_1 : zl_98_1.all (fun r => zz_wb zt_hh zp_P zt_cl zt_tf zt_fd zt_nf zm_98.1.1.cls zm_98.1.1.name r) = true := by decide +kernel
set_option maxRecDepth 100000 in
theorem zy_98_0 : zl_98_0.all (fun r => zz_tb zt_hh zp_P zm_98 r) = true := by decide +kernel
set_option maxRecDepth 100000 in
theorem zy_98_1 : zl_98_1.all (fun r => zz_tb zt_hh zp_P zm_98 r) = true := by decide +kernel
theorem zw_98 : zz_okW zt_hh zp_P zt_cl zt_tf zt_fd zt_nf zt_T zt_N zm_98 := List.forall_mem_cons.mpr ⟨(zz_w_okL zd_98_0 zb_98_0 (zz_places goodWord zq_98_0 zg_98_0) (zz_places zz_isN zr_98_0 zs_98_0) zy_98_0), List.forall_mem_cons.mpr ⟨(zz_w_okL zd_98_1 zb_98_1 (zz_places goodWord zq_98_1 zg_98_1) (zz_places zz_isN zr_98_1 zs_98_1) zy_98_1), (fun _ h => absurd h List.not_mem_nil)⟩⟩
set_option maxRecDepth 100000 in
theorem zq_98 : [zz_cw zt_hh zm_98, Cond.initialized zm_98.1.1.cls].map some = ([1335, 226] : List Nat).map (fun i => lw_tbl[i]?) := by rfl
set_option maxRecDepth 100000 in
theorem zg_98 : [zz_cw zt_hh zm_98, Cond.initialized zm_98.1.1.cls].all goodWord = true := by decide +kernel
set_option maxRecDepth 100000 in
theorem zb_98 : (plainName zm_98.1.1.cls && (decide (zm_98.1.1.cls ≠ "java/lang/invoke/MethodHandle" ∧ zm_98.1.1.cls ≠ "java/lang/invoke/VarHandle") && decide (zm_98.1.2.2.1 ≤ 40))) = true := by decide +kernel
theorem zo_98 : zz_okM zt_hh zp_P zt_cl zt_tf zt_fd zt_nf zt_T zt_N zm_98 := zz_w_okM zw_98 zb_98 (zz_places goodWord zq_98 zg_98)
set_option maxRecDepth 100000 in
theorem zd_99_0 : ∀ r ∈ zl_99_0, decode zm_99.1.2.1 r.1 = .ok (r.2.1, r.2.2.1) := by decide +kernel
set_option maxRecDepth 100000 in
theorem zq_99_0 : (zl_99_0.flatMap (zz_wr zt_hh zp_P zt_cl zm_99.1.1.cls)).map some = ([1210, 1117, 479, 1125, 1126, 1302, 479, 1104, 1105, 1294, 1340, 63, 1338, 479, 1344, 64, 1342, 1088, 1108, 1109, 1296, 479, 1113, 1114, 1297] : List Nat).map (fun i => lw_tbl[i]?) := by rfl
set_option maxRecDepth 100000 in
theorem zg_99_0 : (zl_99_0.flatMap (zz_wr zt_hh zp_P zt_cl zm_99.1.1.cls)).all goodWord = true := by decide +kernel
set_option maxRecDepth 100000 in
theorem zr_99_0 : (zl_99_0.flatMap (zz_wn zp_P zm_99.1.1.cls)).map some = ([1291, 1292, 1295] : List Nat).map (fun i => lw_tbl[i]?) := by rfl
set_option maxRecDepth 100000 in
theorem zs_99_0 : (zl_99_0.flatMap (zz_wn zp_P zm_99.1.1.cls)).all zz_isN = true := by decide +kernel
set_option maxRecDepth 100000 in
theorem zb_99_0 : zl_99_0.all (fun r => zz_wb zt_hh zp_P zt_cl zt_tf zt_fd zt_nf zm_99.1.1.cls zm_99.1.1.name r) = true := by decide +kernel
set_option maxRecDepth 100000 in
theorem zd_99_1 : ∀ r ∈ zl_99_1, decode zm_99.1.2.1 r.1 = .ok (r.2.1, r.2.2.1) := by decide +kernel
set_option maxRecDepth 100000 in
theorem zq_99_1 : (zl_99_1.flatMap (zz_wr zt_hh zp_P zt_cl zm_99.1.1.cls)).map some = ([] : List Nat).map (fun i => lw_tbl[i]?) := by rfl
set_option maxRecDepth 100000 in
theorem zg_99_1 : (zl_99_1.flatMap (zz_wr zt_hh zp_P zt_cl zm_99.1.1.cls)).all goodWord = true := by decide +kernel
set_option maxRecDepth 100000 in
theorem zr_99_1 : (zl_99_1.flatMap (zz_wn zp_P zm_99.1.1.cls)).map some = ([] : List Nat).map (fun i => lw_tbl[i]?) := by rfl
set_option maxRecDepth 100000 in
theorem zs_99_1 : (zl_99_1.flatMap (zz_wn zp_P zm_99.1.1.cls)).all zz_isN = true := by decide +kernel
set_option maxRecDepth 100000 in
theorem zb_99_1 : zl_99_1.all (fun r => zz_wb zt_hh zp_P zt_cl zt_tf zt_fd zt_nf zm_99.1.1.cls zm_99.1.1.name r) = true := by decide +kernel
set_option maxRecDepth 100000 in
theorem zy_99_0 : zl_99_0.all (fun r => zz_tb zt_hh zp_P zm_99 r) = true := by decide +kernel
set_option maxRecDepth 100000 in
theorem zy_99_1 : zl_99_1.all (fun r => zz_tb zt_hh zp_P zm_99 r) = true := by decide +kernel
theorem zw_99 : zz_okW zt_hh zp_P zt_cl zt_tf zt_fd zt_nf zt_T zt_N zm_99 := List.forall_mem_cons.mpr ⟨(zz_w_okL zd_99_0 zb_99_0 (zz_places goodWord zq_99_0 zg_99_0) (zz_places zz_isN zr_99_0 zs_99_0) zy_99_0), List.forall_mem_cons.mpr ⟨(zz_w_okL zd_99_1 zb_99_1 (zz_places goodWord zq_99_1 zg_99_1) (zz_places zz_isN zr_99_1 zs_99_1) zy_99_1), (fun _ h => absurd h List.not_mem_nil)⟩⟩
set_option maxRecDepth 100000 in
theorem zq_99 : [zz_cw zt_hh zm_99, Cond.initialized zm_99.1.1.cls].map some = ([1349, 226] : List Nat).map (fun i => lw_tbl[i]?) := by rfl
set_option maxRecDepth 100000 in
theorem zg_99 : [zz_cw zt_hh zm_99, Cond.initialized zm_99.1.1.cls].all goodWord = true := by decide +kernel
set_option maxRecDepth 100000 in
theorem zb_99 : (plainName zm_99.1.1.cls && (decide (zm_99.1.1.cls ≠ "java/lang/invoke/MethodHandle" ∧ zm_99.1.1.cls ≠ "java/lang/invoke/VarHandle") && decide (zm_99.1.2.2.1 ≤ 40))) = true := by decide +kernel
theorem zo_99 : zz_okM zt_hh zp_P zt_cl zt_tf zt_fd zt_nf zt_T zt_N zm_99 := zz_w_okM zw_99 zb_99 (zz_places goodWord zq_99 zg_99)
set_option maxRecDepth 100000 in
theorem zd_100_0 : ∀ r ∈ zl_100_0, decode zm_100.1.2.1 r.1 = .ok (r.2.1, r.2.2.1) := by decide +kernel
set_option maxRecDepth 100000 in
theorem zq_100_0 : (zl_100_0.flatMap (zz_wr zt_hh zp_P zt_cl zm_100.1.1.cls)).map some = ([480, 479, 1248, 1249, 1303, 479, 480, 1248, 1249, 1303, 480, 480] : List Nat).map (fun i => lw_tbl[i]?) := by rfl
set_option maxRecDepth 100000 in
theorem zg_100_0 : (zl_100_0.flatMap (zz_wr zt_hh zp_P zt_cl zm_100.1.1.cls)).all goodWord = true := by decide +kernel
set_option maxRecDepth 100000 in
theorem zr_100_0 : (zl_100_0.flatMap (zz_wn zp_P zm_100.1.1.cls)).map some = ([] : List Nat).map (fun i => lw_tbl[i]?) := by rfl
set_option maxRecDepth 100000 in
theorem zs_100_0 : (zl_100_0.flatMap (zz_wn zp_P zm_100.1.1.cls)).all zz_isN = true := by decide +kernel
set_option maxRecDepth 100000 in
theorem zb_100_0 : zl_100_0.all (fun r => zz_wb zt_hh zp_P zt_cl zt_tf zt_fd zt_nf zm_100.1.1.cls zm_100.1.1.name r) = true := by decide +kernel
set_option maxRecDepth 100000 in
theorem zd_100_1 : ∀ r ∈ zl_100_1, decode zm_100.1.2.1 r.1 = .ok (r.2.1, r.2.2.1) := by decide +kernel
set_option maxRecDepth 100000 in
theorem zq_100_1 : (zl_100_1.flatMap (zz_wr zt_hh zp_P zt_cl zm_100.1.1.cls)).map some = ([480] : List Nat).map (fun i => lw_tbl[i]?) := by rfl
set_option maxRecDepth 100000 in
theorem zg_100_1 : (zl_100_1.flatMap (zz_wr zt_hh zp_P zt_cl zm_100.1.1.cls)).all goodWord = true := by decide +kernel
set_option maxRecDepth 100000 in
theorem zr_100_1 : (zl_100_1.flatMap (zz_wn zp_P zm_100.1.1.cls)).map some = ([] : List Nat).map (fun i => lw_tbl[i]?) := by rfl
set_option maxRecDepth 100000 in
theorem zs_100_1 : (zl_100_1.flatMap (zz_wn zp_P zm_100.1.1.cls)).all zz_isN = true := by decide +kernel
set_option maxRecDepth 100000 in
theorem zb_100_1 : zl_100_1.all (fun r => zz_wb zt_hh zp_P zt_cl zt_tf zt_fd zt_nf zm_100.1.1.cls zm_100.1.1.name r) = true := by decide +kernel
set_option maxRecDepth 100000 in
theorem zy_100_0 : zl_100_0.all (fun r => zz_tb zt_hh zp_P zm_100 r) = true := by decide +kernel
set_option maxRecDepth 100000 in
theorem zy_100_1 : zl_100_1.all (fun r => zz_tb zt_hh zp_P zm_100 r) = true := by decide +kernel
theorem zw_100 : zz_okW zt_hh zp_P zt_cl zt_tf zt_fd zt_nf zt_T zt_N zm_100 := List.forall_mem_cons.mpr ⟨(zz_w_okL zd_100_0 zb_100_0 (zz_places goodWord zq_100_0 zg_100_0) (zz_places zz_isN zr_100_0 zs_100_0) zy_100_0), List.forall_mem_cons.mpr ⟨(zz_w_okL zd_100_1 zb_100_1 (zz_places goodWord zq_100_1 zg_100_1) (zz_places zz_isN zr_100_1 zs_100_1) zy_100_1), (fun _ h => absurd h List.not_mem_nil)⟩⟩
set_option maxRecDepth 100000 in
theorem zq_100 : [zz_cw zt_hh zm_100, Cond.initialized zm_100.1.1.cls].map some = ([1341, 226] : List Nat).map (fun i => lw_tbl[i]?) := by rfl
set_option maxRecDepth 100000 in
theorem zg_100 : [zz_cw zt_hh zm_100, Cond.initialized zm_100.1.1.cls].all goodWord = true := by decide +kernel
set_option maxRecDepth 100000 in
theorem zb_100 : (plainName zm_100.1.1.cls && (decide (zm_100.1.1.cls ≠ "java/lang/invoke/MethodHandle" ∧ zm_100.1.1.cls ≠ "java/lang/invoke/VarHandle") && decide (zm_100.1.2.2.1 ≤ 40))) = true := by decide +kernel
theorem zo_100 : zz_okM zt_hh zp_P zt_cl zt_tf zt_fd zt_nf zt_T zt_N zm_100 := zz_w_okM zw_100 zb_100 (zz_places goodWord zq_100 zg_100)
set_option maxRecDepth 100000 in
theorem zd_101_0 : ∀ r ∈ zl_101_0, decode zm_101.1.2.1 r.1 = .ok (r.2.1, r.2.2.1) := by decide +kernel
set_option maxRecDepth 100000 in
theorem zq_101_0 : (zl_101_0.flatMap (zz_wr zt_hh zp_P zt_cl zm_101.1.1.cls)).map some = ([480, 480] : List Nat).map (fun i => lw_tbl[i]?) := by rfl
set_option maxRecDepth 100000 in
theorem zg_101_0 : (zl_101_0.flatMap (zz_wr zt_hh zp_P zt_cl zm_101.1.1.cls)).all goodWord = true := by decide +kernel
set_option maxRecDepth 100000 in
theorem zr_101_0 : (zl_101_0.flatMap (zz_wn zp_P zm_101.1.1.cls)).map some = ([] : List Nat).map (fun i => lw_tbl[i]?) := by rfl
set_option maxRecDepth 100000 in
theorem zs_101_0 : (zl_101_0.flatMap (zz_wn zp_P zm_101.1.1.cls)).all zz_isN = true := by decide +kernel
set_option maxRecDepth 100000 in
theorem zb_101_0 : zl_101_0.all (fun r => zz_wb zt_hh zp_P zt_cl zt_tf zt_fd zt_nf zm_101.1.1.cls zm_101.1.1.name r) = true := by decide +kernel
set_option maxRecDepth 100000 in
theorem zy_101_0 : zl_101_0.all (fun r => zz_tb zt_hh zp_P zm_101 r) = true := by decide +kernel
theorem zw_101 : zz_okW zt_hh zp_P zt_cl zt_tf zt_fd zt_nf zt_T zt_N zm_101 := List.forall_mem_cons.mpr ⟨(zz_w_okL zd_101_0 zb_101_0 (zz_places goodWord zq_101_0 zg_101_0) (zz_places zz_isN zr_101_0 zs_101_0) zy_101_0), (fun _ h => absurd h List.not_mem_nil)⟩
set_option maxRecDepth 100000 in
theorem zq_101 : [zz_cw zt_hh zm_101, Cond.initialized zm_101.1.1.cls].map some = ([1345, 226] : List Nat).map (fun i => lw_tbl[i]?) := by rfl
set_option maxRecDepth 100000 in
theorem zg_101 : [zz_cw zt_hh zm_101, Cond.initialized zm_101.1.1.cls].all goodWord = true := by decide +kernel
set_option maxRecDepth 100000 in
theorem zb_101 : (plainName zm_101.1.1.cls && (decide (zm_101.1.1.cls ≠ "java/lang/invoke/MethodHandle" ∧ zm_101.1.1.cls ≠ "java/lang/invoke/VarHandle") && decide (zm_101.1.2.2.1 ≤ 40))) = true := by decide +kernel
theorem zo_101 : zz_okM zt_hh zp_P zt_cl zt_tf zt_fd zt_nf zt_T zt_N zm_101 := zz_w_okM zw_101 zb_101 (zz_places goodWord zq_101 zg_101)
set_option maxRecDepth 100000 in
theorem zd_102_0 : ∀ r ∈ zl_102_0, decode zm_102.1.2.1 r.1 = .ok (r.2.1, r.2.2.1) := by decide +kernel
set_option maxRecDepth 100000 in
theorem zq_102_0 : (zl_102_0.flatMap (zz_wr zt_hh zp_P zt_cl zm_102.1.1.cls)).map some = ([1210, 1117, 479, 1104, 1105, 1294, 479, 1125, 1126, 1302, 479, 479, 1223, 1224, 1315, 1108, 1109, 1296, 479, 1210, 1113, 1114, 1297] : List Nat).map (fun i => lw_tbl[i]?) := by rfl
set_option maxRecDepth 100000 in
theorem zg_102_0 : (zl_102_0.flatMap (zz_wr zt_hh zp_P zt_cl zm_102.1.1.cls)).all goodWord = true := by decide +kernel
set_option maxRecDepth 100000 in
theorem zr_102_0 : (zl_102_0.flatMap (zz_wn zp_P zm_102.1.1.cls)).map some = ([1291, 1292, 1291] : List Nat).map (fun i => lw_tbl[i]?) := by rfl
set_option maxRecDepth 100000 in
theorem zs_102_0 : (zl_102_0.flatMap (zz_wn zp_P zm_102.1.1.cls)).all zz_isN = true := by decide +kernel
set_option maxRecDepth 100000 in
theorem zb_102_0 : zl_102_0.all (fun r => zz_wb zt_hh zp_P zt_cl zt_tf zt_fd zt_nf zm_102.1.1.cls zm_102.1.1.name r) = true := by decide +kernel
set_option maxRecDepth 100000 in
theorem zy_102_0 : zl_102_0.all (fun r => zz_tb zt_hh zp_P zm_102 r) = true := by decide +kernel
theorem zw_102 : zz_okW zt_hh zp_P zt_cl zt_tf zt_fd zt_nf zt_T zt_N zm_102 := List.forall_mem_cons.mpr ⟨(zz_w_okL zd_102_0 zb_102_0 (zz_places goodWord zq_102_0 zg_102_0) (zz_places zz_isN zr_102_0 zs_102_0) zy_102_0), (fun _ h => absurd h List.not_mem_nil)⟩
set_option maxRecDepth 100000 in
theorem zq_102 : [zz_cw zt_hh zm_102, Cond.initialized zm_102.1.1.cls].map some = ([1353, 226] : List Nat).map (fun i => lw_tbl[i]?) := by rfl
set_option maxRecDepth 100000 in
theorem zg_102 : [zz_cw zt_hh zm_102, Cond.initialized zm_102.1.1.cls].all goodWord = true := by decide +kernel
set_option maxRecDepth 100000 in
theorem zb_102 : (plainName zm_102.1.1.cls && (decide (zm_102.1.1.cls ≠ "java/lang/invoke/MethodHandle" ∧ zm_102.1.1.cls ≠ "java/lang/invoke/VarHandle") && decide (zm_102.1.2.2.1 ≤ 40))) = true := by decide +kernel
theorem zo_102 : zz_okM zt_hh zp_P zt_cl zt_tf zt_fd zt_nf zt_T zt_N zm_102 := zz_w_okM zw_102 zb_102 (zz_places goodWord zq_102 zg_102)
set_option maxRecDepth 100000 in
theorem zd_103_0 : ∀ r ∈ zl_103_0, decode zm_103.1.2.1 r.1 = .ok (r.2.1, r.2.2.1) := by decide +kernel
set_option maxRecDepth 100000 in
theorem zq_103_0 : (zl_103_0.flatMap (zz_wr zt_hh zp_P zt_cl zm_103.1.1.cls)).map some = ([1210, 1117, 479, 1125, 1126, 1302, 479, 1104, 1105, 1294, 479, 1223, 1224, 1315, 1210, 1117, 479, 1359, 1360, 1358] : List Nat).map (fun i => lw_tbl[i]?) := by rfl
set_option maxRecDepth 100000 in
theorem zg_103_0 : (zl_103_0.flatMap (zz_wr zt_hh zp_P zt_cl zm_103.1.1.cls)).all goodWord = true := by decide +kernel
set_option maxRecDepth 100000 in
theorem zr_103_0 : (zl_103_0.flatMap (zz_wn zp_P zm_103.1.1.cls)).map some = ([1291, 1292, 1291, 1292] : List Nat).map (fun i => lw_tbl[i]?) := by rfl
set_option maxRecDepth 100000 in
theorem zs_103_0 : (zl_103_0.flatMap (zz_wn zp_P zm_103.1.1.cls)).all zz_isN = true := by decide +kernel
set_option maxRecDepth 100000 in
theorem zb_103_0 : zl_103_0.all (fun r => zz_wb zt_hh zp_P zt_cl zt_tf zt_fd zt_nf zm_103.1.1.cls zm_103.1.1.name r) = true := by decide +kernel
set_option maxRecDepth 100000 in
theorem zd_103_1 : ∀ r ∈ zl_103_1, decode zm_103.1.2.1 r.1 = .ok (r.2.1, r.2.2.1) := by decide +kernel
set_option maxRecDepth 100000 in
theorem zq_103_1 : (zl_103_1.flatMap (zz_wr zt_hh zp_P zt_cl zm_103.1.1.cls)).map some = ([479, 1113, 1114, 1297] : List Nat).map (fun i => lw_tbl[i]?) := by rfl
set_option maxRecDepth 100000 in
theorem zg_103_1 : (zl_103_1.flatMap (zz_wr zt_hh zp_P zt_cl zm_103.1.1.cls)).all goodWord = true := by decide +kernel
set_option maxRecDepth 100000 in
theorem zr_103_1 : (zl_103_1.flatMap (zz_wn zp_P zm_103.1.1.cls)).map some = ([] : List Nat).map (fun i => lw_tbl[i]?) := by rfl
set_option maxRecDepth 100000 in
theorem zs_103_1 : (zl_103_1.flatMap (zz_wn zp_P zm_103.1.1.cls)).all zz_isN = true := by decide +kernel
set_option maxRecDepth 100000 in
theorem zb_103_1 : zl_103_1.all (fun r => zz_wb zt_hh zp_P zt_cl zt_tf zt_fd zt_nf zm_103.1.1.cls zm_103.1.1.name r) = true := by decide +kernel
set_option maxRecDepth 100000 in
theorem zy_103_0 : zl_103_0.all (fun r => zz_tb zt_hh zp_P zm_103 r) = true := by decide +kernel
set_option maxRecDepth 100000 in
theorem zy_103_1 : zl_103_1.all (fun r => zz_tb zt_hh zp_P zm_103 r) = true := by decide +kernel
theorem zw_103 : zz_okW zt_hh zp_P zt_cl zt_tf zt_fd zt_nf zt_T zt_N zm_103 := List.forall_mem_cons.mpr ⟨(zz_w_okL zd_103_0 zb_103_0 (zz_places goodWord zq_103_0 zg_103_0) (zz_places zz_isN zr_103_0 zs_103_0) zy_103_0), List.forall_mem_cons.mpr ⟨(zz_w_okL zd_103_1 zb_103_1 (zz_places goodWord zq_103_1 zg_103_1) (zz_places zz_isN zr_103_1 zs_103_1) zy_103_1), (fun _ h => absurd h List.not_mem_nil)⟩⟩
set_option maxRecDepth 100000 in
theorem zq_103 : [zz_cw zt_hh zm_103, Cond.initialized zm_103.1.1.cls].map some = ([1357, 226] : List Nat).map (fun i => lw_tbl[i]?) := by rfl
set_option maxRecDepth 100000 in
theorem zg_103 : [zz_cw zt_hh zm_103, Cond.initialized zm_103.1.1.cls].all goodWord = true := by decide +kernel
set_option maxRecDepth 100000 in
theorem zb_103 : (plainName zm_103.1.1.cls && (decide (zm_103.1.1.cls ≠ "java/lang/invoke/MethodHandle" ∧ zm_103.1.1.cls ≠ "java/lang/invoke/VarHandle") && decide (zm_103.1.2.2.1 ≤ 40))) = true := by decide +kernel
theorem zo_103 : zz_okM zt_hh zp_P zt_cl zt_tf zt_fd zt_nf zt_T zt_N zm_103 := zz_w_okM zw_103 zb_103 (zz_places goodWord zq_103 zg_103)
set_option maxRecDepth 100000 in
theorem zd_104_0 : ∀ r ∈ zl_104_0, decode zm_104.1.2.1 r.1 = .ok (r.2.1, r.2.2.1) := by decide +kernel
set_option maxRecDepth 100000 in
theorem zq_104_0 : (zl_104_0.flatMap (zz_wr zt_hh zp_P zt_cl zm_104.1.1.cls)).map some = ([1210, 1117, 479, 1125, 1126, 1302, 479, 479, 1223, 1224, 1315, 1125, 1126, 1302, 1304, 701, 228, 702, 1117, 479] : List Nat).map (fun i => lw_tbl[i]?) := by rfl
set_option maxRecDepth 100000 in
theorem zg_104_0 : (zl_104_0.flatMap (zz_wr zt_hh zp_P zt_cl zm_104.1.1.cls)).all goodWord = true := by decide +kernel
set_option maxRecDepth 100000 in
theorem zr_104_0 : (zl_104_0.flatMap (zz_wn zp_P zm_104.1.1.cls)).map some = ([1291, 1292, 1292] : List Nat).map (fun i => lw_tbl[i]?) := by rfl
set_option maxRecDepth 100000 in
theorem zs_104_0 : (zl_104_0.flatMap (zz_wn zp_P zm_104.1.1.cls)).all zz_isN = true := by decide +kernel
set_option maxRecDepth 100000 in
theorem zb_104_0 : zl_104_0.all (fun r => zz_wb zt_hh zp_P zt_cl zt_tf zt_fd zt_nf zm_104.1.1.cls zm_104.1.1.name r) = true := by decide +kernel
set_option maxRecDepth 100000 in
theorem zd_104_1 : ∀ r ∈ zl_104_1, decode zm_104.1.2.1 r.1 = .ok (r.2.1, r.2.2.1) := by decide +kernel
set_option maxRecDepth 100000 in
theorem zq_104_1 : (zl_104_1.flatMap (zz_wr zt_hh zp_P zt_cl zm_104.1.1.cls)).map some = ([1104, 1105, 1294, 479, 1370, 69, 1368, 1108, 1109, 1296, 479, 1113, 1114, 1297] : List Nat).map (fun i => lw_tbl[i]?) := by rfl
set_option maxRecDepth 100000 in
theorem zg_104_1 : (zl_104_1.flatMap (zz_wr zt_hh zp_P zt_cl zm_104.1.1.cls)).all goodWord = true := by decide +kernel
set_option maxRecDepth 100000 in
theorem zr_104_1 : (zl_104_1.flatMap (zz_wn zp_P zm_104.1.1.cls)).map some = ([] : List Nat).map (fun i => lw_tbl[i]?) := by rfl
set_option maxRecDepth 100000 in
theorem zs_104_1 : (zl_104_1.flatMap (zz_wn zp_P zm_104.1.1.cls)).all zz_isN = true := by decide +kernel
set_option maxRecDepth 100000 in
theorem zb_104_1 : zl_104_1.all (fun r => zz_wb zt_hh zp_P zt_cl zt_tf zt_fd zt_nf zm_104.1.1.cls zm_104.1.1.name r) = true := by decide +kernel
set_option maxRecDepth 100000 in
theorem zy_104_0 : zl_104_0.all (fun r => zz_tb zt_hh zp_P zm_104 r) = true := by decide +kernel
set_option maxRecDepth 100000 in
theorem zy_104_1 : zl_104_1.all (fun r => zz_tb zt_hh zp_P zm_104 r) = true := by decide +kernel
theorem zw_104 : zz_okW zt_hh zp_P zt_cl zt_tf zt_fd zt_nf zt_T zt_N zm_104 := List.forall_mem_cons.mpr ⟨(zz_w_okL zd_104_0 zb_104_0 (zz_places goodWord zq_104_0 zg_104_0) (zz_places zz_isN zr_104_0 zs_104_0) zy_104_0), List.forall_mem_cons.mpr ⟨(zz_w_okL zd_104_1 zb_104_1 (zz_places goodWord zq_104_1 zg_104_1) (zz_places zz_isN zr_104_1 zs_104_1) zy_104_1), (fun _ h => absurd h List.not_mem_nil)⟩⟩
set_option maxRecDepth 100000 in
theorem zq_104 : [zz_cw zt_hh zm_104, Cond.initialized zm_104.1.1.cls].map some = ([1367, 226] : List Nat).map (fun i => lw_tbl[i]?) := by rfl
set_option maxRecDepth 100000 in
theorem zg_104 : [zz_cw zt_hh zm_104, Cond.initialized zm_104.1.1.cls].all goodWord = true := by decide +kernel
set_option maxRecDepth 100000 in
theorem zb_104 : (plainName zm_104.1.1.cls && (decide (zm_104.1.1.cls ≠ "java/lang/invoke/MethodHandle" ∧ zm_104.1.1.cls ≠ "java/lang/invoke/VarHandle") && decide (zm_104.1.2.2.1 ≤ 40))) = true := by decide +kernel
theorem zo_104 : zz_okM zt_hh zp_P zt_cl zt_tf zt_fd zt_nf zt_T zt_N zm_104 := zz_w_okM zw_104 zb_104 (zz_places goodWord zq_104 zg_104)
set_option maxRecDepth 100000 in
theorem zd_105_0 : ∀ r ∈ zl_105_0, decode zm_105.1.2.1 r.1 = .ok (r.2.1, r.2.2.1) := by decide +kernel
set_option maxRecDepth 100000 in
theorem zq_105_0 : (zl_105_0.flatMap (zz_wr zt_hh zp_P zt_cl zm_105.1.1.cls)).map some = ([479, 1104, 1105, 1294, 479, 1223, 1224, 1315, 479, 1125, 1126, 1302, 479, 479, 1223, 1224, 1315, 1108, 1109, 1296, 479, 1113, 1114, 1297] : List Nat).map (fun i => lw_tbl[i]?) := by rfl
set_option maxRecDepth 100000 in
theorem zg_105_0 : (zl_105_0.flatMap (zz_wr zt_hh zp_P zt_cl zm_105.1.1.cls)).all goodWord = true := by decide +kernel
set_option maxRecDepth 100000 in
theorem zr_105_0 : (zl_105_0.flatMap (zz_wn zp_P zm_105.1.1.cls)).map some = ([] : List Nat).map (fun i => lw_tbl[i]?) := by rfl
set_option maxRecDepth 100000 in
theorem zs_105_0 : (zl_105_0.flatMap (zz_wn zp_P zm_105.1.1.cls)).all zz_isN = true := by decide +kernel
set_option maxRecDepth 100000 in
theorem zb_105_0 : zl_105_0.all (fun r => zz_wb zt_hh zp_P zt_cl zt_tf zt_fd zt_nf zm_105.1.1.cls zm_105.1.1.name r) = true := by decide +kernel
set_option maxRecDepth 100000 in
theorem zy_105_0 : zl_105_0.all (fun r => zz_tb zt_hh zp_P zm_105 r) = true := by decide +kernel
theorem zw_105 : zz_okW zt_hh zp_P zt_cl zt_tf zt_fd zt_nf zt_T zt_N zm_105 := List.forall_mem_cons.mpr ⟨(zz_w_okL zd_105_0 zb_105_0 (zz_places goodWord zq_105_0 zg_105_0) (zz_places zz_isN zr_105_0 zs_105_0) zy_105_0), (fun _ h => absurd h List.not_mem_nil)⟩
set_option maxRecDepth 100000 in
theorem zq_105 : [zz_cw zt_hh zm_105, Cond.initialized zm_105.1.1.cls].map some = ([1371, 226] : List Nat).map (fun i => lw_tbl[i]?) := by rfl
set_option maxRecDepth 100000 in
theorem zg_105 : [zz_cw zt_hh zm_105, Cond.initialized zm_105.1.1.cls].all goodWord = true := by decide +kernel
set_option maxRecDepth 100000 in
theorem zb_105 : (plainName zm_105.1.1.cls && (decide (zm_105.1.1.cls ≠ "java/lang/invoke/MethodHandle" ∧ zm_105.1.1.cls ≠ "java/lang/invoke/VarHandle") && decide (zm_105.1.2.2.1 ≤ 40))) = true := by decide +kernel
theorem zo_105 : zz_okM zt_hh zp_P zt_cl zt_tf zt_fd zt_nf zt_T zt_N zm_105 := zz_w_okM zw_105 zb_105 (zz_places goodWord zq_105 zg_105)
set_option maxRecDepth 100000 in
theorem zd_106_0 : ∀ r ∈ zl_106_0, decode zm_106.1.2.1 r.1 = .ok (r.2.1, r.2.2.1) := by decide +kernel
set_option maxRecDepth 100000 in
theorem zq_106_0 : (zl_106_0.flatMap (zz_wr zt_hh zp_P zt_cl zm_106.1.1.cls)).map some = ([1210, 1117, 479, 1125, 1126, 1302, 479, 1248, 1249, 1303, 1304, 701, 228, 702, 479, 1248, 1249, 1303, 1305, 592, 228, 593] : List Nat).map (fun i => lw_tbl[i]?) := by rfl
set_option maxRecDepth 100000 in
theorem zg_106_0 : (zl_106_0.flatMap (zz_wr zt_hh zp_P zt_cl zm_106.1.1.cls)).all goodWord = true := by decide +kernel
set_option maxRecDepth 100000 in
theorem zr_106_0 : (zl_106_0.flatMap (zz_wn zp_P zm_106.1.1.cls)).map some = ([1291, 1292] : List Nat).map (fun i => lw_tbl[i]?) := by rfl
set_option maxRecDepth 100000 in
theorem zs_106_0 : (zl_106_0.flatMap (zz_wn zp_P zm_106.1.1.cls)).all zz_isN = true := by decide +kernel
set_option maxRecDepth 100000 in
theorem zb_106_0 : zl_106_0.all (fun r => zz_wb zt_hh zp_P zt_cl zt_tf zt_fd zt_nf zm_106.1.1.cls zm_106.1.1.name r) = true := by decide +kernel
set_option maxRecDepth 100000 in
theorem zd_106_1 : ∀ r ∈ zl_106_1, decode zm_106.1.2.1 r.1 = .ok (r.2.1, r.2.2.1) := by decide +kernel
set_option maxRecDepth 100000 in
theorem zq_106_1 : (zl_106_1.flatMap (zz_wr zt_hh zp_P zt_cl zm_106.1.1.cls)).map some = ([1117, 1117, 479, 1104, 1105, 1294, 479, 1378, 71, 1376, 1108, 1109, 1296, 479, 1113, 1114, 1297] : List Nat).map (fun i => lw_tbl[i]?) := by rfl
set_option maxRecDepth 100000 in
theorem zg_106_1 : (zl_106_1.flatMap (zz_wr zt_hh zp_P zt_cl zm_106.1.1.cls)).all goodWord = true := by decide +kernel
set_option maxRecDepth 100000 in
theorem zr_106_1 : (zl_106_1.flatMap (zz_wn zp_P zm_106.1.1.cls)).map some = ([1292, 1292] : List Nat).map (fun i => lw_tbl[i]?) := by rfl
set_option maxRecDepth 100000 in
theorem zs_106_1 : (zl_106_1.flatMap (zz_wn zp_P zm_106.1.1.cls)).all zz_isN = true := by decide +kernel
set_option maxRecDepth 100000 in
theorem zb_106_1 : zl_106_1.all (fun r => zz_wb zt_hh zp_P zt_cl zt_tf zt_fd zt_nf zm_106.1.1.cls zm_106.1.1.name r) = true := by decide +kernel
set_option maxRecDepth 100000 in
theorem zy_106_0 : zl_106_0.all (fun r => zz_tb zt_hh zp_P zm_106 r) = true := by decide +kernel
set_option maxRecDepth 100000 in
theorem zy_106_1 : zl_106_1.all (fun r => zz_tb zt_hh zp_P zm_106 r) = true := by decide +kernel
theorem zw_106 : zz_okW zt_hh zp_P zt_cl zt_tf zt_fd zt_nf zt_T zt_N zm_106 := List.forall_mem_cons.mpr ⟨(zz_w_okL zd_106_0 zb_106_0 (zz_places goodWord zq_106_0 zg_106_0) (zz_places zz_isN zr_106_0 zs_106_0) zy_106_0), List.forall_mem_cons.mpr ⟨(zz_w_okL zd_106_1 zb_106_1 (zz_places goodWord zq_106_1 zg_106_1) (zz_places zz_isN zr_106_1 zs_106_1) zy_106_1), (fun _ h => absurd h List.not_mem_nil)⟩⟩
set_option maxRecDepth 100000 in
theorem zq_106 : [zz_cw zt_hh zm_106, Cond.initialized zm_106.1.1.cls].map some = ([1375, 226] : List Nat).map (fun i => lw_tbl[i]?) := by rfl
set_option maxRecDepth 100000 in
theorem zg_106 : [zz_cw zt_hh zm_106, Cond.initialized zm_106.1.1.cls].all goodWord = true := by decide +kernel
set_option maxRecDepth 100000 in
theorem zb_106 : (plainName zm_106.1.1.cls && (decide (zm_106.1.1.cls ≠ "java/lang/invoke/MethodHandle" ∧ zm_106.1.1.cls ≠ "java/lang/invoke/VarHandle") && decide (zm_106.1.2.2.1 ≤ 40))) = true := by decide +kernel
theorem zo_106 : zz_okM zt_hh zp_P zt_cl zt_tf zt_fd zt_nf zt_T zt_N zm_106 := zz_w_okM zw_106 zb_106 (zz_places goodWord zq_106 zg_106)
set_option maxRecDepth 100000 in
theorem zd_107_0 : ∀ r ∈ zl_107_0, decode zm_107.1.2.1 r.1 = .ok (r.2.1, r.2.2.1) := by decide +kernel
set_option maxRecDepth 100000 in
theorem zq_107_0 : (zl_107_0.flatMap (zz_wr zt_hh zp_P zt_cl zm_107.1.1.cls)).map some = ([479, 1104, 1105, 1294, 479, 1248, 1249, 1303, 479, 1088, 1108, 1109, 1296, 479, 1113, 1114, 1297] : List Nat).map (fun i => lw_tbl[i]?) := by rfl
set_option maxRecDepth 100000 in
theorem zg_107_0 : (zl_107_0.flatMap (zz_wr zt_hh zp_P zt_cl zm_107.1.1.cls)).all goodWord = true := by decide +kernel
set_option maxRecDepth 100000 in
theorem zr_107_0 : (zl_107_0.flatMap (zz_wn zp_P zm_107.1.1.cls)).map some = ([1295] : List Nat).map (fun i => lw_tbl[i]?) := by rfl
set_option maxRecDepth 100000 in
theorem zs_107_0 : (zl_107_0.flatMap (zz_wn zp_P zm_107.1.1.cls)).all zz_isN = true := by decide +kernel
set_option maxRecDepth 100000 in
theorem zb_107_0 : zl_107_0.all (fun r => zz_wb zt_hh zp_P zt_cl zt_tf zt_fd zt_nf zm_107.1.1.cls zm_107.1.1.name r) = true := by decide +kernel
set_option maxRecDepth 100000 in
theorem zy_107_0 : zl_107_0.all (fun r => zz_tb zt_hh zp_P zm_107 r) = true := by decide +kernel
theorem zw_107 : zz_okW zt_hh zp_P zt_cl zt_tf zt_fd zt_nf zt_T zt_N zm_107 := List.forall_mem_cons.mpr ⟨(zz_w_okL zd_107_0 zb_107_0 (zz_places goodWord zq_107_0 zg_107_0) (zz_places zz_isN zr_107_0 zs_107_0) zy_107_0), (fun _ h => absurd h List.not_mem_nil)⟩
set_option maxRecDepth 100000 in
theorem zq_107 : [zz_cw zt_hh zm_107, Cond.initialized zm_107.1.1.cls].map some = ([1379, 226] : List Nat).map (fun i => lw_tbl[i]?) := by rfl
set_option maxRecDepth 100000 in
theorem zg_107 : [zz_cw zt_hh zm_107, Cond.initialized zm_107.1.1.cls].all goodWord = true := by decide +kernel
set_option maxRecDepth 100000 in
theorem zb_107 : (plainName zm_107.1.1.cls && (decide (zm_107.1.1.cls ≠ "java/lang/invoke/MethodHandle" ∧ zm_107.1.1.cls ≠ "java/lang/invoke/VarHandle") && decide (zm_107.1.2.2.1 ≤ 40))) = true := by decide +kernel
theorem zo_107 : zz_okM zt_hh zp_P zt_cl zt_tf zt_fd zt_nf zt_T zt_N zm_107 := zz_w_okM zw_107 zb_107 (zz_places goodWord zq_107 zg_107)
set_option maxRecDepth 100000 in
theorem zd_108_0 : ∀ r ∈ zl_108_0, decode zm_108.1.2.1 r.1 = .ok (r.2.1, r.2.2.1) := by decide +kernel
set_option maxRecDepth 100000 in
theorem zq_108_0 : (zl_108_0.flatMap (zz_wr zt_hh zp_P zt_cl zm_108.1.1.cls)).map some = ([1210, 1210, 1304, 701, 228, 702, 1304, 701, 228, 702, 1210, 1210, 1117, 479, 1104, 1105, 1294, 479, 1359, 1360, 1358, 479, 1359, 1360, 1358, 479, 1113, 1114, 1297] : List Nat).map (fun i => lw_tbl[i]?) := by rfl
set_option maxRecDepth 100000 in
theorem zg_108_0 : (zl_108_0.flatMap (zz_wr zt_hh zp_P zt_cl zm_108.1.1.cls)).all goodWord = true := by decide +kernel
set_option maxRecDepth 100000 in
theorem zr_108_0 : (zl_108_0.flatMap (zz_wn zp_P zm_108.1.1.cls)).map some = ([1291, 1291, 1291, 1291, 1292] : List Nat).map (fun i => lw_tbl[i]?) := by rfl
set_option maxRecDepth 100000 in
theorem zs_108_0 : (zl_108_0.flatMap (zz_wn zp_P zm_108.1.1.cls)).all zz_isN = true := by decide +kernel
set_option maxRecDepth 100000 in
theorem zb_108_0 : zl_108_0.all (fun r => zz_wb zt_hh zp_P zt_cl zt_tf zt_fd zt_nf zm_108.1.1.cls zm_108.1.1.name r) = true := by decide +kernel
set_option maxRecDepth 100000 in
theorem zy_108_0 : zl_108_0.all (fun r => zz_tb zt_hh zp_P zm_108 r) = true := by decide +kernel
theorem zw_108 : zz_okW zt_hh zp_P zt_cl zt_tf zt_fd zt_nf zt_T zt_N zm_108 := List.forall_mem_cons.mpr ⟨(zz_w_okL zd_108_0 zb_108_0 (zz_places goodWord zq_108_0 zg_108_0) (zz_places zz_isN zr_108_0 zs_108_0) zy_108_0), (fun _ h => absurd h List.not_mem_nil)⟩
set_option maxRecDepth 100000 in
theorem zq_108 : [zz_cw zt_hh zm_108, Cond.initialized zm_108.1.1.cls].map some = ([1391, 226] : List Nat).map (fun i => lw_tbl[i]?) := by rfl
set_option maxRecDepth 100000 in
theorem zg_108 : [zz_cw zt_hh zm_108, Cond.initialized zm_108.1.1.cls].all goodWord = true := by decide +kernel
set_option maxRecDepth 100000 in
theorem zb_108 : (plainName zm_108.1.1.cls && (decide (zm_108.1.1.cls ≠ "java/lang/invoke/MethodHandle" ∧ zm_108.1.1.cls ≠ "java/lang/invoke/VarHandle") && decide (zm_108.1.2.2.1 ≤ 40))) = true := by decide +kernel
theorem zo_108 : zz_okM zt_hh zp_P zt_cl zt_tf zt_fd zt_nf zt_T zt_N zm_108 := zz_w_okM zw_108 zb_108 (zz_places goodWord zq_108 zg_108)
set_option maxRecDepth 100000 in
theorem zd_109_0 : ∀ r ∈ zl_109_0, decode zm_109.1.2.1 r.1 = .ok (r.2.1, r.2.2.1) := by decide +kernel
set_option maxRecDepth 100000 in
theorem zq_109_0 : (zl_109_0.flatMap (zz_wr zt_hh zp_P zt_cl zm_109.1.1.cls)).map some = ([1210, 1210, 1117, 1228, 1396, 1397, 228, 1398, 1117, 479, 1125, 1126, 1302] : List Nat).map (fun i => lw_tbl[i]?) := by rfl
set_option maxRecDepth 100000 in
theorem zg_109_0 : (zl_109_0.flatMap (zz_wr zt_hh zp_P zt_cl zm_109.1.1.cls)).all goodWord = true := by decide +kernel
set_option maxRecDepth 100000 in
theorem zr_109_0 : (zl_109_0.flatMap (zz_wn zp_P zm_109.1.1.cls)).map some = ([1291, 1291, 1292, 1293, 1292] : List Nat).map (fun i => lw_tbl[i]?) := by rfl
set_option maxRecDepth 100000 in
theorem zs_109_0 : (zl_109_0.flatMap (zz_wn zp_P zm_109.1.1.cls)).all zz_isN = true := by decide +kernel
set_option maxRecDepth 100000 in
theorem zb_109_0 : zl_109_0.all (fun r => zz_wb zt_hh zp_P zt_cl zt_tf zt_fd zt_nf zm_109.1.1.cls zm_109.1.1.name r) = true := by decide +kernel
set_option maxRecDepth 100000 in
theorem zd_109_1 : ∀ r ∈ zl_109_1, decode zm_109.1.2.1 r.1 = .ok (r.2.1, r.2.2.1) := by decide +kernel
set_option maxRecDepth 100000 in
theorem zq_109_1 : (zl_109_1.flatMap (zz_wr zt_hh zp_P zt_cl zm_109.1.1.cls)).map some = ([479, 1104, 1105, 1294, 1309, 57, 1307, 1088, 479] : List Nat).map (fun i => lw_tbl[i]?) := by rfl
set_option maxRecDepth 100000 in
theorem zg_109_1 : (zl_109_1.flatMap (zz_wr zt_hh zp_P zt_cl zm_109.1.1.cls)).all goodWord = true := by decide +kernel
set_option maxRecDepth 100000 in
theorem zr_109_1 : (zl_109_1.flatMap (zz_wn zp_P zm_109.1.1.cls)).map some = ([1295] : List Nat).map (fun i => lw_tbl[i]?) := by rfl
set_option maxRecDepth 100000 in
theorem zs_109_1 : (zl_109_1.flatMap (zz_wn zp_P zm_109.1.1.cls)).all zz_isN = true := by decide +kernel
set_option maxRecDepth 100000 in
theorem zb_109_1 : zl_109_1.all (fun r => zz_wb zt_hh zp_P zt_cl zt_tf zt_fd zt_nf zm_109.1.1.cls zm_109.1.1.name r) = true := by decide +kernel
set_option maxRecDepth 100000 in
theorem zd_109_2 : ∀ r ∈ zl_109_2, decode zm_109.1.2.1 r.1 = .ok (r.2.1, r.2.2.1) := by decide +kernel
set_option maxRecDepth 100000 in
theorem zq_109_2 : (zl_109_2.flatMap (zz_wr zt_hh zp_P zt_cl zm_109.1.1.cls)).map some = ([479, 1223, 1224, 1315, 1108, 1109, 1296, 479, 1113, 1114, 1297] : List Nat).map (fun i => lw_tbl[i]?) := by rfl
set_option maxRecDepth 100000 in
theorem zg_109_2 : (zl_109_2.flatMap (zz_wr zt_hh zp_P zt_cl zm_109.1.1.cls)).all goodWord = true := by decide +kernel
set_option maxRecDepth 100000 in
theorem zr_109_2 : (zl_109_2.flatMap (zz_wn zp_P zm_109.1.1.cls)).map some = ([] : List Nat).map (fun i => lw_tbl[i]?) := by rfl
set_option maxRecDepth 100000 in
theorem zs_109_2 : (zl_109_2.flatMap (zz_wn zp_P zm_109.1.1.cls)).all zz_isN = true := by decide +kernel
set_option maxRecDepth 100000 in
theorem zb_109_2 : zl_109_2.all (fun r => zz_wb zt_hh zp_P zt_cl zt_tf zt_fd zt_nf zm_109.1.1.cls zm_109.1.1.name r) = true := by decide +kernel
set_option maxRecDepth 100000 in
theorem zy_109_0 : zl_109_0.all (fun r => zz_tb zt_hh zp_P zm_109 r) = true := by decide +kernel
set_option maxRecDepth 100000 in
theorem zy_109_1 : zl_109_1.all (fun r => zz_tb zt_hh zp_P zm_109 r) = true := by decide +kernel
set_option maxRecDepth 100000 in
theorem zy_109_2 : zl_109_2.all (fun r => zz_tb zt_hh zp_P zm_109 r) = true := by decide +kernel
theorem zw_109 : zz_okW zt_hh zp_P zt_cl zt_tf zt_fd zt_nf zt_T zt_N zm_109 := List.forall_mem_cons.mpr ⟨(zz_w_okL zd_109_0 zb_109_0 (zz_places goodWord zq_109_0 zg_109_0) (zz_places zz_isN zr_109_0 zs_109_0) zy_109_0), List.forall_mem_cons.mpr ⟨(zz_w_okL zd_109_1 zb_109_1 (zz_places goodWord zq_109_1 zg_109_1) (zz_places zz_isN zr_109_1 zs_109_1) zy_109_1), List.forall_mem_cons.mpr ⟨(zz_w_okL zd_109_2 zb_109_2 (zz_places goodWord zq_109_2 zg_109_2) (zz_places zz_isN zr_109_2 zs_109_2) zy_109_2), (fun _ h => absurd h List.not_mem_nil)⟩⟩⟩
set_option maxRecDepth 100000 in
theorem zq_109 : [zz_cw zt_hh zm_109, Cond.initialized zm_109.1.1.cls].map some = ([1395, 226] : List Nat).map (fun i => lw_tbl[i]?) := by rfl
set_option maxRecDepth 100000 in
theorem zg_109 : [zz_cw zt_hh zm_109, Cond.initialized zm_109.1.1.cls].all goodWord = true := by decide +kernel
set_option maxRecDepth 100000 in
theorem zb_109 : (plainName zm_109.1.1.cls && (decide (zm_109.1.1.cls ≠ "java/lang/invoke/MethodHandle" ∧ zm_109.1.1.cls ≠ "java/lang/invoke/VarHandle") && decide (zm_109.1.2.2.1 ≤ 40))) = true := by decide +kernel
theorem zo_109 : zz_okM zt_hh zp_P zt_cl zt_tf zt_fd zt_nf zt_T zt_N zm_109 := zz_w_okM zw_109 zb_109 (zz_places goodWord zq_109 zg_109)
set_option maxRecDepth 100000 in
theorem zd_110_0 : ∀ r ∈ zl_110_0, decode zm_110.1.2.1 r.1 = .ok (r.2.1, r.2.2.1) := by decide +kernel
set_option maxRecDepth 100000 in
theorem zq_110_0 : (zl_110_0.flatMap (zz_wr zt_hh zp_P zt_cl zm_110.1.1.cls)).map some = ([1210, 1210, 1117, 1228, 479, 1125, 1126, 1302, 479, 1104, 1105, 1294, 479, 1403, 1404, 228, 1405, 1406, 1407, 228, 1408, 1406, 1407, 228, 1408, 1403, 1404, 228, 1405] : List Nat).map (fun i => lw_tbl[i]?) := by rfl
set_option maxRecDepth 100000 in
theorem zg_110_0 : (zl_110_0.flatMap (zz_wr zt_hh zp_P zt_cl zm_110.1.1.cls)).all goodWord = true := by decide +kernel
set_option maxRecDepth 100000 in
theorem zr_110_0 : (zl_110_0.flatMap (zz_wn zp_P zm_110.1.1.cls)).map some = ([1291, 1291, 1292, 1293] : List Nat).map (fun i => lw_tbl[i]?) := by rfl
set_option maxRecDepth 100000 in
theorem zs_110_0 : (zl_110_0.flatMap (zz_wn zp_P zm_110.1.1.cls)).all zz_isN = true := by decide +kernel
set_option maxRecDepth 100000 in
theorem zb_110_0 : zl_110_0.all (fun r => zz_wb zt_hh zp_P zt_cl zt_tf zt_fd zt_nf zm_110.1.1.cls zm_110.1.1.name r) = true := by decide +kernel
set_option maxRecDepth 100000 in
theorem zd_110_1 : ∀ r ∈ zl_110_1, decode zm_110.1.2.1 r.1 = .ok (r.2.1, r.2.2.1) := by decide +kernel
set_option maxRecDepth 100000 in
theorem zq_110_1 : (zl_110_1.flatMap (zz_wr zt_hh zp_P zt_cl zm_110.1.1.cls)).map some = ([1410, 1411, 1409, 479, 1210, 1113, 1114, 1297] : List Nat).map (fun i => lw_tbl[i]?) := by rfl
set_option maxRecDepth 100000 in
theorem zg_110_1 : (zl_110_1.flatMap (zz_wr zt_hh zp_P zt_cl zm_110.1.1.cls)).all goodWord = true := by decide +kernel
set_option maxRecDepth 100000 in
theorem zr_110_1 : (zl_110_1.flatMap (zz_wn zp_P zm_110.1.1.cls)).map some = ([1291] : List Nat).map (fun i => lw_tbl[i]?) := by rfl
set_option maxRecDepth 100000 in
theorem zs_110_1 : (zl_110_1.flatMap (zz_wn zp_P zm_110.1.1.cls)).all zz_isN = true := by decide +kernel
set_option maxRecDepth 100000 in
theorem zb_110_1 : zl_110_1.all (fun r => zz_wb zt_hh zp_P zt_cl zt_tf zt_fd zt_nf zm_110.1.1.cls zm_110.1.1.name r) = true := by decide +kernel
set_option maxRecDepth 100000 in
theorem zy_110_0 : zl_110_0.all (fun r => zz_tb zt_hh zp_P zm_110 r) = true := by decide +kernel
set_option maxRecDepth 100000 in
theorem zy_110_1 : zl_110_1.all (fun r => zz_tb zt_hh zp_P zm_110 r) = true := by decide +kernel
theorem zw_110 : zz_okW zt_hh zp_P zt_cl zt_tf zt_fd zt_nf zt_T zt_N zm_110 := List.forall_mem_cons.mpr ⟨(zz_w_okL zd_110_0 zb_110_0 (zz_places goodWord zq_110_0 zg_110_0) (zz_places zz_isN zr_110_0 zs_110_0) zy_110_0), List.forall_mem_cons.mpr ⟨(zz_w_okL zd_110_1 zb_110_1 (zz_places goodWord zq_110_1 zg_110_1) (zz_places zz_isN zr_110_1 zs_110_1) zy_110_1), (fun _ h => absurd h List.not_mem_nil)⟩⟩
set_option maxRecDepth 100000 in
theorem zq_110 : [zz_cw zt_hh zm_110, Cond.initialized zm_110.1.1.cls].map some = ([1402, 226] : List Nat).map (fun i => lw_tbl[i]?) := by rfl
set_option maxRecDepth 100000 in
theorem zg_110 : [zz_cw zt_hh zm_110, Cond.initialized zm_110.1.1.cls].all goodWord = true := by decide +kernel
set_option maxRecDepth 100000 in
theorem zb_110 : (plainName zm_110.1.1.cls && (decide (zm_110.1.1.cls ≠ "java/lang/invoke/MethodHandle" ∧ zm_110.1.1.cls ≠ "java/lang/invoke/VarHandle") && decide (zm_110.1.2.2.1 ≤ 40))) = true := by decide +kernel
theorem zo_110 : zz_okM zt_hh zp_P zt_cl zt_tf zt_fd zt_nf zt_T zt_N zm_110 := zz_w_okM zw_110 zb_110 (zz_places goodWord zq_110 zg_110)
set_option maxRecDepth 100000 in
theorem zd_111_0 : ∀ r ∈ zl_111_0, decode zm_111.1.2.1 r.1 = .ok (r.2.1, r.2.2.1) := by decide +kernel
set_option maxRecDepth 100000 in
theorem zq_111_0 : (zl_111_0.flatMap (zz_wr zt_hh zp_P zt_cl zm_111.1.1.cls)).map some = ([1210, 1210, 1117, 479, 1125, 1126, 1302, 479, 1248, 1249, 1303, 1305, 592, 228, 593, 479, 1248, 1249, 1303] : List Nat).map (fun i => lw_tbl[i]?) := by rfl
set_option maxRecDepth 100000 in
theorem zg_111_0 : (zl_111_0.flatMap (zz_wr zt_hh zp_P zt_cl zm_111.1.1.cls)).all goodWord = true := by decide +kernel
set_option maxRecDepth 100000 in
theorem zr_111_0 : (zl_111_0.flatMap (zz_wn zp_P zm_111.1.1.cls)).map some = ([1291, 1291, 1292] : List Nat).map (fun i => lw_tbl[i]?) := by rfl
set_option maxRecDepth 100000 in
theorem zs_111_0 : (zl_111_0.flatMap (zz_wn zp_P zm_111.1.1.cls)).all zz_isN = true := by decide +kernel
set_option maxRecDepth 100000 in
theorem zb_111_0 : zl_111_0.all (fun r => zz_wb zt_hh zp_P zt_cl zt_tf zt_fd zt_nf zm_111.1.1.cls zm_111.1.1.name r) = true := by decide +kernel
set_option maxRecDepth 100000 in
theorem zd_111_1 : ∀ r ∈ zl_111_1, decode zm_111.1.2.1 r.1 = .ok (r.2.1, r.2.2.1) := by decide +kernel
set_option maxRecDepth 100000 in
theorem zq_111_1 : (zl_111_1.flatMap (zz_wr zt_hh zp_P zt_cl zm_111.1.1.cls)).map some = ([1117, 1117, 479, 1125, 1126, 1302, 1117, 479, 1104, 1105, 1294, 479] : List Nat).map (fun i => lw_tbl[i]?) := by rfl
set_option maxRecDepth 100000 in
theorem zg_111_1 : (zl_111_1.flatMap (zz_wr zt_hh zp_P zt_cl zm_111.1.1.cls)).all goodWord = true := by decide +kernel
set_option maxRecDepth 100000 in
theorem zr_111_1 : (zl_111_1.flatMap (zz_wn zp_P zm_111.1.1.cls)).map some = ([1292, 1292, 1292] : List Nat).map (fun i => lw_tbl[i]?) := by rfl
set_option maxRecDepth 100000 in
theorem zs_111_1 : (zl_111_1.flatMap (zz_wn zp_P zm_111.1.1.cls)).all zz_isN = true := by decide +kernel
set_option maxRecDepth 100000 in
theorem zb_111_1 : zl_111_1.all (fun r => zz_wb zt_hh zp_P zt_cl zt_tf zt_fd zt_nf zm_111.1.1.cls zm_111.1.1.name r) = true := by decide +kernel
set_option maxRecDepth 100000 in
theorem zd_111_2 : ∀ r ∈ zl_111_2, decode zm_111.1.2.1 r.1 = .ok (r.2.1, r.2.2.1) := by decide +kernel
set_option maxRecDepth 100000 in
theorem zq_111_2 : (zl_111_2.flatMap (zz_wr zt_hh zp_P zt_cl zm_111.1.1.cls)).map some = ([479, 1248, 1249, 1303, 1419, 77, 1417, 1108, 1109, 1296, 479, 1248, 1249, 1303, 479, 1113, 1114, 1297] : List Nat).map (fun i => lw_tbl[i]?) := by rfl
set_option maxRecDepth 100000 in
theorem zg_111_2 : (zl_111_2.flatMap (zz_wr zt_hh zp_P zt_cl zm_111.1.1.cls)).all goodWord = true := by decide +kernel
set_option maxRecDepth 100000 in
theorem zr_111_2 : (zl_111_2.flatMap (zz_wn zp_P zm_111.1.1.cls)).map some = ([] : List Nat).map (fun i => lw_tbl[i]?) := by rfl
set_option maxRecDepth 100000 in
theorem zs_111_2 : (zl_111_2.flatMap (zz_wn zp_P zm_111.1.1.cls)).all zz_isN = true := by decide +kernel
set_option maxRecDepth 100000 in
theorem zb_111_2 : zl_111_2.all (fun r => zz_wb zt_hh zp_P zt_cl zt_tf zt_fd zt_nf zm_111.1.1.cls zm_111.1.1.name r) = true := by decide +kernel
set_option maxRecDepth 100000 in
theorem zy_111_0 : zl_111_0.all (fun r => zz_tb zt_hh zp_P zm_111 r) = true := by decide +kernel
set_option maxRecDepth 100000 in
theorem zy_111_1 : zl_111_1.all (fun r => zz_tb zt_hh zp_P zm_111 r) = true := by decide +kernel
set_option maxRecDepth 100000 in
theorem zy_111_2 : zl_111_2.all (fun r => zz_tb zt_hh zp_P zm_111 r) = true := by decide +kernel
theorem zw_111 : zz_okW zt_hh zp_P zt_cl zt_tf zt_fd zt_nf zt_T zt_N zm_111 := List.forall_mem_cons.mpr ⟨(zz_w_okL zd_111_0 zb_111_0 (zz_places goodWord zq_111_0 zg_111_0) (zz_places zz_isN zr_111_0 zs_111_0) zy_111_0), List.forall_mem_cons.mpr ⟨(zz_w_okL zd_111_1 zb_111_1 (zz_places goodWord zq_111_1 zg_111_1) (zz_places zz_isN zr_111_1 zs_111_1) zy_111_1), List.forall_mem_cons.mpr ⟨(zz_w_okL zd_111_2 zb_111_2 (zz_places goodWord zq_111_2 zg_111_2) (zz_places zz_isN zr_111_2 zs_111_2) zy_111_2), (fun _ h => absurd h List.not_mem_nil)⟩⟩⟩
set_option maxRecDepth 100000 in
theorem zq_111 : [zz_cw zt_hh zm_111, Cond.initialized zm_111.1.1.cls].map some = ([1416, 226] : List Nat).map (fun i => lw_tbl[i]?) := by rfl
set_option maxRecDepth 100000 in
theorem zg_111 : [zz_cw zt_hh zm_111, Cond.initialized zm_111.1.1.cls].all goodWord = true := by decide +kernel
set_option maxRecDepth 100000 in
theorem zb_111 : (plainName zm_111.1.1.cls && (decide (zm_111.1.1.cls ≠ "java/lang/invoke/MethodHandle" ∧ zm_111.1.1.cls ≠ "java/lang/invoke/VarHandle") && decide (zm_111.1.2.2.1 ≤ 40))) = true := by decide +kernel
theorem zo_111 : zz_okM zt_hh zp_P zt_cl zt_tf zt_fd zt_nf zt_T zt_N zm_111 := zz_w_okM zw_111 zb_111 (zz_places goodWord zq_111 zg_111)
set_option maxRecDepth 100000 in
theorem zd_112_0 : ∀ r ∈ zl_112_0, decode zm_112.1.2.1 r.1 = .ok (r.2.1, r.2.2.1) := by decide +kernel
set_option maxRecDepth 100000 in
theorem zq_112_0 : (zl_112_0.flatMap (zz_wr zt_hh zp_P zt_cl zm_112.1.1.cls)).map some = ([479, 1104, 1105, 1294, 479, 479, 1223, 1224, 1315, 1108, 1109, 1296, 479, 1113, 1114, 1297] : List Nat).map (fun i => lw_tbl[i]?) := by rfl
set_option maxRecDepth 100000 in
theorem zg_112_0 : (zl_112_0.flatMap (zz_wr zt_hh zp_P zt_cl zm_112.1.1.cls)).all goodWord = true := by decide +kernel
set_option maxRecDepth 100000 in
theorem zr_112_0 : (zl_112_0.flatMap (zz_wn zp_P zm_112.1.1.cls)).map some = ([] : List Nat).map (fun i => lw_tbl[i]?) := by rfl
set_option maxRecDepth 100000 in
theorem zs_112_0 : (zl_112_0.flatMap (zz_wn zp_P zm_112.1.1.cls)).all zz_isN = true := by decide +kernel
set_option maxRecDepth 100000 in
theorem zb_112_0 : zl_112_0.all (fun r => zz_wb zt_hh zp_P zt_cl zt_tf zt_fd zt_nf zm_112.1.1.cls zm_112.1.1.name r) = true := by decide +kernel
set_option maxRecDepth 100000 in
theorem zy_112_0 : zl_112_0.all (fun r => zz_tb zt_hh zp_P zm_112 r) = true := by decide +kernel
theorem zw_112 : zz_okW zt_hh zp_P zt_cl zt_tf zt_fd zt_nf zt_T zt_N zm_112 := List.forall_mem_cons.mpr ⟨(zz_w_okL zd_112_0 zb_112_0 (zz_places goodWord zq_112_0 zg_112_0) (zz_places zz_isN zr_112_0 zs_112_0) zy_112_0), (fun _ h => absurd h List.not_mem_nil)⟩
set_option maxRecDepth 100000 in
theorem zq_112 : [zz_cw zt_hh zm_112, Cond.initialized zm_112.1.1.cls].map some = ([1420, 226] : List Nat).map (fun i => lw_tbl[i]?) := by rfl
set_option maxRecDepth 100000 in
theorem zg_112 : [zz_cw zt_hh zm_112, Cond.initialized zm_112.1.1.cls].all goodWord = true := by decide +kernel
set_option maxRecDepth 100000 in
theorem zb_112 : (plainName zm_112.1.1.cls && (decide (zm_112.1.1.cls ≠ "java/lang/invoke/MethodHandle" ∧ zm_112.1.1.cls ≠ "java/lang/invoke/VarHandle") && decide (zm_112.1.2.2.1 ≤ 40))) = true := by decide +kernel
theorem zo_112 : zz_okM zt_hh zp_P zt_cl zt_tf zt_fd zt_nf zt_T zt_N zm_112 := zz_w_okM zw_112 zb_112 (zz_places goodWord zq_112 zg_112)
set_option maxRecDepth 100000 in
theorem zd_113_0 : ∀ r ∈ zl_113_0, decode zm_113.1.2.1 r.1 = .ok (r.2.1, r.2.2.1) := by decide +kernel
set_option maxRecDepth 100000 in
theorem zq_113_0 : (zl_113_0.flatMap (zz_wr zt_hh zp_P zt_cl zm_113.1.1.cls)).map some = ([1210, 1210, 1117, 479, 1125, 1126, 1302, 479, 1125, 1126, 1302, 1117, 479, 1104, 1105, 1294, 479, 1248, 1249, 1303] : List Nat).map (fun i => lw_tbl[i]?) := by rfl
set_option maxRecDepth 100000 in
theorem zg_113_0 : (zl_113_0.flatMap (zz_wr zt_hh zp_P zt_cl zm_113.1.1.cls)).all goodWord = true := by decide +kernel
set_option maxRecDepth 100000 in
theorem zr_113_0 : (zl_113_0.flatMap (zz_wn zp_P zm_113.1.1.cls)).map some = ([1291, 1291, 1292, 1292] : List Nat).map (fun i => lw_tbl[i]?) := by rfl
set_option maxRecDepth 100000 in
theorem zs_113_0 : (zl_113_0.flatMap (zz_wn zp_P zm_113.1.1.cls)).all zz_isN = true := by decide +kernel
set_option maxRecDepth 100000 in
theorem zb_113_0 : zl_113_0.all (fun r => zz_wb zt_hh zp_P zt_cl zt_tf zt_fd zt_nf zm_113.1.1.cls zm_113.1.1.name r) = true := by decide +kernel
set_option maxRecDepth 100000 in
theorem zd_113_1 : ∀ r ∈ zl_113_1, decode zm_113.1.2.1 r.1 = .ok (r.2.1, r.2.2.1) := by decide +kernel
set_option maxRecDepth 100000 in
theorem zq_113_1 : (zl_113_1.flatMap (zz_wr zt_hh zp_P zt_cl zm_113.1.1.cls)).map some = ([479, 479, 1223, 1224, 1315, 1108, 1109, 1296, 479, 1210, 1113, 1114, 1297] : List Nat).map (fun i => lw_tbl[i]?) := by rfl
set_option maxRecDepth 100000 in
theorem zg_113_1 : (zl_113_1.flatMap (zz_wr zt_hh zp_P zt_cl zm_113.1.1.cls)).all goodWord = true := by decide +kernel
set_option maxRecDepth 100000 in
theorem zr_113_1 : (zl_113_1.flatMap (zz_wn zp_P zm_113.1.1.cls)).map some = ([1291] : List Nat).map (fun i => lw_tbl[i]?) := by rfl
set_option maxRecDepth 100000 in
theorem zs_113_1 : (zl_113_1.flatMap (zz_wn zp_P zm_113.1.1.cls)).all zz_isN = true := by decide +kernel
set_option maxRecDepth 100000 in
theorem zb_113_1 : zl_113_1.all (fun r => zz_wb zt_hh zp_P zt_cl zt_tf zt_fd zt_nf zm_113.1.1.cls zm_113.1.1.name r) = true := by decide +kernel
set_option maxRecDepth 100000 in
theorem zy_113_0 : zl_113_0.all (fun r => zz_tb zt_hh zp_P zm_113 r) = true := by decide +kernel
set_option maxRecDepth 100000 in
theorem zy_113_1 : zl_113_1.all (fun r => zz_tb zt_hh zp_P zm_113 r) = true := by decide +kernel
theorem zw_113 : zz_okW zt_hh zp_P zt_cl zt_tf zt_fd zt_nf zt_T zt_N zm_113 := List.forall_mem_cons.mpr ⟨(zz_w_okL zd_113_0 zb_113_0 (zz_places goodWord zq_113_0 zg_113_0) (zz_places zz_isN zr_113_0 zs_113_0) zy_113_0), List.forall_mem_cons.mpr ⟨(zz_w_okL zd_113_1 zb_113_1 (zz_places goodWord zq_113_1 zg_113_1) (zz_places zz_isN zr_113_1 zs_113_1) zy_113_1), (fun _ h => absurd h List.not_mem_nil)⟩⟩
set_option maxRecDepth 100000 in
theorem zq_113 : [zz_cw zt_hh zm_113, Cond.initialized zm_113.1.1.cls].map some = ([1424, 226] : List Nat).map (fun i => lw_tbl[i]?) := by rfl
set_option maxRecDepth 100000 in
theorem zg_113 : [zz_cw zt_hh zm_113, Cond.initialized zm_113.1.1.cls].all goodWord = true := by decide +kernel
set_option maxRecDepth 100000 in
theorem zb_113 : (plainName zm_113.1.1.cls && (decide (zm_113.1.1.cls ≠ "java/lang/invoke/MethodHandle" ∧ zm_113.1.1.cls ≠ "java/lang/invoke/VarHandle") && decide (zm_113.1.2.2.1 ≤ 40))) = true := by decide +kernel
theorem zo_113 : zz_okM zt_hh zp_P zt_cl zt_tf zt_fd zt_nf zt_T zt_N zm_113 := zz_w_okM zw_113 zb_113 (zz_places goodWord zq_113 zg_113)
set_option maxRecDepth 100000 in
theorem zd_114_0 : ∀ r ∈ zl_114_0, decode zm_114.1.2.1 r.1 = .ok (r.2.1, r.2.2.1) := by decide +kernel
set_option maxRecDepth 100000 in
theorem zq_114_0 : (zl_114_0.flatMap (zz_wr zt_hh zp_P zt_cl zm_114.1.1.cls)).map some = ([1210, 1210, 1117, 1210, 1228, 1431, 80, 1429, 1088, 479, 1125, 1126, 1302, 479, 1104, 1105, 1294, 479] : List Nat).map (fun i => lw_tbl[i]?) := by rfl
set_option maxRecDepth 100000 in
theorem zg_114_0 : (zl_114_0.flatMap (zz_wr zt_hh zp_P zt_cl zm_114.1.1.cls)).all goodWord = true := by decide +kernel
set_option maxRecDepth 100000 in
theorem zr_114_0 : (zl_114_0.flatMap (zz_wn zp_P zm_114.1.1.cls)).map some = ([1291, 1291, 1292, 1291, 1293, 1295] : List Nat).map (fun i => lw_tbl[i]?) := by rfl
set_option maxRecDepth 100000 in
theorem zs_114_0 : (zl_114_0.flatMap (zz_wn zp_P zm_114.1.1.cls)).all zz_isN = true := by decide +kernel
set_option maxRecDepth 100000 in
theorem zb_114_0 : zl_114_0.all (fun r => zz_wb zt_hh zp_P zt_cl zt_tf zt_fd zt_nf zm_114.1.1.cls zm_114.1.1.name r) = true := by decide +kernel
set_option maxRecDepth 100000 in
theorem zd_114_1 : ∀ r ∈ zl_114_1, decode zm_114.1.2.1 r.1 = .ok (r.2.1, r.2.2.1) := by decide +kernel
set_option maxRecDepth 100000 in
theorem zq_114_1 : (zl_114_1.flatMap (zz_wr zt_hh zp_P zt_cl zm_114.1.1.cls)).map some = ([479, 1248, 1249, 1303, 1431, 80, 1429, 1088, 1108, 1109, 1296, 479, 1113, 1114, 1297] : List Nat).map (fun i => lw_tbl[i]?) := by rfl
set_option maxRecDepth 100000 in
theorem zg_114_1 : (zl_114_1.flatMap (zz_wr zt_hh zp_P zt_cl zm_114.1.1.cls)).all goodWord = true := by decide +kernel
set_option maxRecDepth 100000 in
theorem zr_114_1 : (zl_114_1.flatMap (zz_wn zp_P zm_114.1.1.cls)).map some = ([1295] : List Nat).map (fun i => lw_tbl[i]?) := by rfl
set_option maxRecDepth 100000 in
theorem zs_114_1 : (zl_114_1.flatMap (zz_wn zp_P zm_114.1.1.cls)).all zz_isN = true := by decide +kernel
set_option maxRecDepth 100000 in
theorem zb_114_1 : zl_114_1.all (fun r => zz_wb zt_hh zp_P zt_cl zt_tf zt_fd zt_nf zm_114.1.1.cls zm_114.1.1.name r) = true := by decide +kernel
set_option maxRecDepth 100000 in
theorem zy_114_0 : zl_114_0.all (fun r => zz_tb zt_hh zp_P zm_114 r) = true := by decide +kernel
set_option maxRecDepth 100000 in
theorem zy_114_1 : zl_114_1.all (fun r => zz_tb zt_hh zp_P zm_114 r) = true := by decide +kernel
theorem zw_114 : zz_okW zt_hh zp_P zt_cl zt_tf zt_fd zt_nf zt_T zt_N zm_114 := List.forall_mem_cons.mpr ⟨(zz_w_okL zd_114_0 zb_114_0 (zz_places goodWord zq_114_0 zg_114_0) (zz_places zz_isN zr_114_0 zs_114_0) zy_114_0), List.forall_mem_cons.mpr ⟨(zz_w_okL zd_114_1 zb_114_1 (zz_places goodWord zq_114_1 zg_114_1) (zz_places zz_isN zr_114_1 zs_114_1) zy_114_1), (fun _ h => absurd h List.not_mem_nil)⟩⟩
set_option maxRecDepth 100000 in
theorem zq_114 : [zz_cw zt_hh zm_114, Cond.initialized zm_114.1.1.cls].map some = ([1428, 226] : List Nat).map (fun i => lw_tbl[i]?) := by rfl
set_option maxRecDepth 100000 in
theorem zg_114 : [zz_cw zt_hh zm_114, Cond.initialized zm_114.1.1.cls].all goodWord = true := by decide +kernel
set_option maxRecDepth 100000 in
theorem zb_114 : (plainName zm_114.1.1.cls && (decide (zm_114.1.1.cls ≠ "java/lang/invoke/MethodHandle" ∧ zm_114.1.1.cls ≠ "java/lang/invoke/VarHandle") && decide (zm_114.1.2.2.1 ≤ 40))) = true := by decide +kernel
theorem zo_114 : zz_okM zt_hh zp_P zt_cl zt_tf zt_fd zt_nf zt_T zt_N zm_114 := zz_w_okM zw_114 zb_114 (zz_places goodWord zq_114 zg_114)
set_option maxRecDepth 100000 in
theorem zd_115_0 : ∀ r ∈ zl_115_0, decode zm_115.1.2.1 r.1 = .ok (r.2.1, r.2.2.1) := by decide +kernel
set_option maxRecDepth 100000 in
theorem zq_115_0 : (zl_115_0.flatMap (zz_wr zt_hh zp_P zt_cl zm_115.1.1.cls)).map some = ([479, 1125, 1126, 1302, 479, 1248, 1249, 1303] : List Nat).map (fun i => lw_tbl[i]?) := by rfl
set_option maxRecDepth 100000 in
theorem zg_115_0 : (zl_115_0.flatMap (zz_wr zt_hh zp_P zt_cl zm_115.1.1.cls)).all goodWord = true := by decide +kernel
set_option maxRecDepth 100000 in
theorem zr_115_0 : (zl_115_0.flatMap (zz_wn zp_P zm_115.1.1.cls)).map some = ([] : List Nat).map (fun i => lw_tbl[i]?) := by rfl
set_option maxRecDepth 100000 in
theorem zs_115_0 : (zl_115_0.flatMap (zz_wn zp_P zm_115.1.1.cls)).all zz_isN = true := by decide +kernel
set_option maxRecDepth 100000 in
theorem zb_115_0 : zl_115_0.all (fun r => zz_wb zt_hh zp_P zt_cl zt_tf zt_fd zt_nf zm_115.1.1.cls zm_115.1.1.name r) = true := by decide +kernel
set_option maxRecDepth 100000 in
theorem zy_115_0 : zl_115_0.all (fun r => zz_tb zt_hh zp_P zm_115 r) = true := by decide +kernel
theorem zw_115 : zz_okW zt_hh zp_P zt_cl zt_tf zt_fd zt_nf zt_T zt_N zm_115 := List.forall_mem_cons.mpr ⟨(zz_w_okL zd_115_0 zb_115_0 (zz_places goodWord zq_115_0 zg_115_0) (zz_places zz_isN zr_115_0 zs_115_0) zy_115_0), (fun _ h => absurd h List.not_mem_nil)⟩
set_option maxRecDepth 100000 in
theorem zq_115 : [zz_cw zt_hh zm_115, Cond.initialized zm_115.1.1.cls].map some = ([1432, 226] : List Nat).map (fun i => lw_tbl[i]?) := by rfl
set_option maxRecDepth 100000 in
theorem zg_115 : [zz_cw zt_hh zm_115, Cond.initialized zm_115.1.1.cls].all goodWord = true := by decide +kernel
set_option maxRecDepth 100000 in
theorem zb_115 : (plainName zm_115.1.1.cls && (decide (zm_115.1.1.cls ≠ "java/lang/invoke/MethodHandle" ∧ zm_115.1.1.cls ≠ "java/lang/invoke/VarHandle") && decide (zm_115.1.2.2.1 ≤ 40))) = true := by decide +kernel
theorem zo_115 : zz_okM zt_hh zp_P zt_cl zt_tf zt_fd zt_nf zt_T zt_N zm_115 := zz_w_okM zw_115 zb_115 (zz_places goodWord zq_115 zg_115)
set_option maxRecDepth 100000 in
theorem zd_116_0 : ∀ r ∈ zl_116_0, decode zm_116.1.2.1 r.1 = .ok (r.2.1, r.2.2.1) := by decide +kernel
set_option maxRecDepth 100000 in
theorem zq_116_0 : (zl_116_0.flatMap (zz_wr zt_hh zp_P zt_cl zm_116.1.1.cls)).map some = ([1210, 1210, 1117, 1228, 479, 1125, 1126, 1302, 1306, 1117, 1117, 479, 1104, 1105, 1294] : List Nat).map (fun i => lw_tbl[i]?) := by rfl
set_option maxRecDepth 100000 in
theorem zg_116_0 : (zl_116_0.flatMap (zz_wr zt_hh zp_P zt_cl zm_116.1.1.cls)).all goodWord = true := by decide +kernel
set_option maxRecDepth 100000 in
theorem zr_116_0 : (zl_116_0.flatMap (zz_wn zp_P zm_116.1.1.cls)).map some = ([1291, 1291, 1292, 1293, 1292, 1292] : List Nat).map (fun i => lw_tbl[i]?) := by rfl
set_option maxRecDepth 100000 in
theorem zs_116_0 : (zl_116_0.flatMap (zz_wn zp_P zm_116.1.1.cls)).all zz_isN = true := by decide +kernel
set_option maxRecDepth 100000 in
theorem zb_116_0 : zl_116_0.all (fun r => zz_wb zt_hh zp_P zt_cl zt_tf zt_fd zt_nf zm_116.1.1.cls zm_116.1.1.name r) = true := by decide +kernel
set_option maxRecDepth 100000 in
theorem zd_116_1 : ∀ r ∈ zl_116_1, decode zm_116.1.2.1 r.1 = .ok (r.2.1, r.2.2.1) := by decide +kernel
set_option maxRecDepth 100000 in
theorem zq_116_1 : (zl_116_1.flatMap (zz_wr zt_hh zp_P zt_cl zm_116.1.1.cls)).map some = ([479, 479, 1223, 1224, 1315, 1439, 82, 1437, 1108, 1109, 1296, 479, 1113, 1114, 1297] : List Nat).map (fun i => lw_tbl[i]?) := by rfl
set_option maxRecDepth 100000 in
theorem zg_116_1 : (zl_116_1.flatMap (zz_wr zt_hh zp_P zt_cl zm_116.1.1.cls)).all goodWord = true := by decide +kernel
set_option maxRecDepth 100000 in
theorem zr_116_1 : (zl_116_1.flatMap (zz_wn zp_P zm_116.1.1.cls)).map some = ([] : List Nat).map (fun i => lw_tbl[i]?) := by rfl
set_option maxRecDepth 100000 in
theorem zs_116_1 : (zl_116_1.flatMap (zz_wn zp_P zm_116.1.1.cls)).all zz_isN = true := by decide +kernel
set_option maxRecDepth 100000 in
theorem zb_116_1 : zl_116_1.all (fun r => zz_wb zt_hh zp_P zt_cl zt_tf zt_fd zt_nf zm_116.1.1.cls zm_116.1.1.name r) = true := by decide +kernel
set_option maxRecDepth 100000 in
theorem zy_116_0 : zl_116_0.all (fun r => zz_tb zt_hh zp_P zm_116 r) = true := by decide +kernel
set_option maxRecDepth 100000 in
theorem zy_116_1 : zl_116_1.all (fun r => zz_tb zt_hh zp_P zm_116 r) = true := by decide +kernel
theorem zw_116 : zz_okW zt_hh zp_P zt_cl zt_tf zt_fd zt_nf zt_T zt_N zm_116 := List.forall_mem_cons.mpr ⟨(zz_w_okL zd_116_0 zb_116_0 (zz_places goodWord zq_116_0 zg_116_0) (zz_places zz_isN zr_116_0 zs_116_0) zy_116_0), List.forall_mem_cons.mpr ⟨(zz_w_okL zd_116_1 zb_116_1 (zz_places goodWord zq_116_1 zg_116_1) (zz_places zz_isN zr_116_1 zs_116_1) zy_116_1), (fun _ h => absurd h List.not_mem_nil)⟩⟩
set_option maxRecDepth 100000 in
theorem zq_116 : [zz_cw zt_hh zm_116, Cond.initialized zm_116.1.1.cls].map some = ([1436, 226] : List Nat).map (fun i => lw_tbl[i]?) := by rfl
set_option maxRecDepth 100000 in
theorem zg_116 : [zz_cw zt_hh zm_116, Cond.initialized zm_116.1.1.cls].all goodWord = true := by decide +kernel
set_option maxRecDepth 100000 in
theorem zb_116 : (plainName zm_116.1.1.cls && (decide (zm_116.1.1.cls ≠ "java/lang/invoke/MethodHandle" ∧ zm_116.1.1.cls ≠ "java/lang/invoke/VarHandle") && decide (zm_116.1.2.2.1 ≤ 40))) = true := by decide +kernel
theorem zo_116 : zz_okM zt_hh zp_P zt_cl zt_tf zt_fd zt_nf zt_T zt_N zm_116 := zz_w_okM zw_116 zb_116 (zz_places goodWord zq_116 zg_116)
set_option maxRecDepth 100000 in
theorem zd_117_0 : ∀ r ∈ zl_117_0, decode zm_117.1.2.1 r.1 = .ok (r.2.1, r.2.2.1) := by decide +kernel
set_option maxRecDepth 100000 in
theorem zq_117_0 : (zl_117_0.flatMap (zz_wr zt_hh zp_P zt_cl zm_117.1.1.cls)).map some = ([479, 1104, 1105, 1294, 479, 1125, 1126, 1302, 479, 479, 1248, 1249, 1303, 1088, 1108, 1109, 1296, 479, 1113, 1114, 1297] : List Nat).map (fun i => lw_tbl[i]?) := by rfl
set_option maxRecDepth 100000 in
theorem zg_117_0 : (zl_117_0.flatMap (zz_wr zt_hh zp_P zt_cl zm_117.1.1.cls)).all goodWord = true := by decide +kernel
set_option maxRecDepth 100000 in
theorem zr_117_0 : (zl_117_0.flatMap (zz_wn zp_P zm_117.1.1.cls)).map some = ([1295] : List Nat).map (fun i => lw_tbl[i]?) := by rfl
set_option maxRecDepth 100000 in
theorem zs_117_0 : (zl_117_0.flatMap (zz_wn zp_P zm_117.1.1.cls)).all zz_isN = true := by decide +kernel
set_option maxRecDepth 100000 in
theorem zb_117_0 : zl_117_0.all (fun r => zz_wb zt_hh zp_P zt_cl zt_tf zt_fd zt_nf zm_117.1.1.cls zm_117.1.1.name r) = true := by decide +kernel
set_option maxRecDepth 100000 in
theorem zy_117_0 : zl_117_0.all (fun r => zz_tb zt_hh zp_P zm_117 r) = true := by decide +kernel
theorem zw_117 : zz_okW zt_hh zp_P zt_cl zt_tf zt_fd zt_nf zt_T zt_N zm_117 := List.forall_mem_cons.mpr ⟨(zz_w_okL zd_117_0 zb_117_0 (zz_places goodWord zq_117_0 zg_117_0) (zz_places zz_isN zr_117_0 zs_117_0) zy_117_0), (fun _ h => absurd h List.not_mem_nil)⟩
set_option maxRecDepth 100000 in
theorem zq_117 : [zz_cw zt_hh zm_117, Cond.initialized zm_117.1.1.cls].map some = ([1440, 226] : List Nat).map (fun i => lw_tbl[i]?) := by rfl
set_option maxRecDepth 100000 in
theorem zg_117 : [zz_cw zt_hh zm_117, Cond.initialized zm_117.1.1.cls].all goodWord = true := by decide +kernel
set_option maxRecDepth 100000 in
theorem zb_117 : (plainName zm_117.1.1.cls && (decide (zm_117.1.1.cls ≠ "java/lang/invoke/MethodHandle" ∧ zm_117.1.1.cls ≠ "java/lang/invoke/VarHandle") && decide (zm_117.1.2.2.1 ≤ 40))) = true := by decide +kernel
theorem zo_117 : zz_okM zt_hh zp_P zt_cl zt_tf zt_fd zt_nf zt_T zt_N zm_117 := zz_w_okM zw_117 zb_117 (zz_places goodWord zq_117 zg_117)
set_option maxRecDepth 100000 in
theorem zd_118_0 : ∀ r ∈ zl_118_0, decode zm_118.1.2.1 r.1 = .ok (r.2.1, r.2.2.1) := by decide +kernel
set_option maxRecDepth 100000 in
theorem zq_118_0 : (zl_118_0.flatMap (zz_wr zt_hh zp_P zt_cl zm_118.1.1.cls)).map some = ([1210, 1210, 1117, 479, 1125, 1126, 1302, 479, 1125, 1126, 1302, 1117, 479, 1104, 1105, 1294] : List Nat).map (fun i => lw_tbl[i]?) := by rfl
set_option maxRecDepth 100000 in
theorem zg_118_0 : (zl_118_0.flatMap (zz_wr zt_hh zp_P zt_cl zm_118.1.1.cls)).all goodWord = true := by decide +kernel
set_option maxRecDepth 100000 in
theorem zr_118_0 : (zl_118_0.flatMap (zz_wn zp_P zm_118.1.1.cls)).map some = ([1291, 1291, 1292, 1292] : List Nat).map (fun i => lw_tbl[i]?) := by rfl
set_option maxRecDepth 100000 in
theorem zs_118_0 : (zl_118_0.flatMap (zz_wn zp_P zm_118.1.1.cls)).all zz_isN = true := by decide +kernel
set_option maxRecDepth 100000 in
theorem zb_118_0 : zl_118_0.all (fun r => zz_wb zt_hh zp_P zt_cl zt_tf zt_fd zt_nf zm_118.1.1.cls zm_118.1.1.name r) = true := by decide +kernel
set_option maxRecDepth 100000 in
theorem zd_118_1 : ∀ r ∈ zl_118_1, decode zm_118.1.2.1 r.1 = .ok (r.2.1, r.2.2.1) := by decide +kernel
set_option maxRecDepth 100000 in
theorem zq_118_1 : (zl_118_1.flatMap (zz_wr zt_hh zp_P zt_cl zm_118.1.1.cls)).map some = ([479, 479, 1248, 1249, 1303, 1447, 84, 1445, 1108, 1109, 1296, 479, 1113, 1114, 1297] : List Nat).map (fun i => lw_tbl[i]?) := by rfl
set_option maxRecDepth 100000 in
theorem zg_118_1 : (zl_118_1.flatMap (zz_wr zt_hh zp_P zt_cl zm_118.1.1.cls)).all goodWord = true := by decide +kernel
set_option maxRecDepth 100000 in
theorem zr_118_1 : (zl_118_1.flatMap (zz_wn zp_P zm_118.1.1.cls)).map some = ([] : List Nat).map (fun i => lw_tbl[i]?) := by rfl
set_option maxRecDepth 100000 in
theorem zs_118_1 : (zl_118_1.flatMap (zz_wn zp_P zm_118.1.1.cls)).all zz_isN = true := by decide +kernel
set_option maxRecDepth 100000 in
theorem zb_118_1 : zl_118_1.all (fun r => zz_wb zt_hh zp_P zt_cl zt_tf zt_fd zt_nf zm_118.1.1.cls zm_118.1.1.name r) = true := by decide +kernel
set_option maxRecDepth 100000 in
theorem zy_118_0 : zl_118_0.all (fun r => zz_tb zt_hh zp_P zm_118 r) = true := by decide +kernel
set_option maxRecDepth 100000 in
theorem zy_118_1 : zl_118_1.all (fun r => zz_tb zt_hh zp_P zm_118 r) = true := by decide +kernel
theorem zw_118 : zz_okW zt_hh zp_P zt_cl zt_tf zt_fd zt_nf zt_T zt_N zm_118 := List.forall_mem_cons.mpr ⟨(zz_w_okL zd_118_0 zb_118_0 (zz_places goodWord zq_118_0 zg_118_0) (zz_places zz_isN zr_118_0 zs_118_0) zy_118_0), List.forall_mem_cons.mpr ⟨(zz_w_okL zd_118_1 zb_118_1 (zz_places goodWord zq_118_1 zg_118_1) (zz_places zz_isN zr_118_1 zs_118_1) zy_118_1), (fun _ h => absurd h List.not_mem_nil)⟩⟩
set_option maxRecDepth 100000 in
theorem zq_118 : [zz_cw zt_hh zm_118, Cond.initialized zm_118.1.1.cls].map some = ([1444, 226] : List Nat).map (fun i => lw_tbl[i]?) := by rfl
set_option maxRecDepth 100000 in
theorem zg_118 : [zz_cw zt_hh zm_118, Cond.initialized zm_118.1.1.cls].all goodWord = true := by decide +kernel
set_option maxRecDepth 100000 in
theorem zb_118 : (plainName zm_118.1.1.cls && (decide (zm_118.1.1.cls ≠ "java/lang/invoke/MethodHandle" ∧ zm_118.1.1.cls ≠ "java/lang/invoke/VarHandle") && decide (zm_118.1.2.2.1 ≤ 40))) = true := by decide +kernel
theorem zo_118 : zz_okM zt_hh zp_P zt_cl zt_tf zt_fd zt_nf zt_T zt_N zm_118 := zz_w_okM zw_118 zb_118 (zz_places goodWord zq_118 zg_118)
set_option maxRecDepth 100000 in
theorem zd_119_0 : ∀ r ∈ zl_119_0, decode zm_119.1.2.1 r.1 = .ok (r.2.1, r.2.2.1) := by decide +kernel
set_option maxRecDepth 100000 in
theorem zq_119_0 : (zl_119_0.flatMap (zz_wr zt_hh zp_P zt_cl zm_119.1.1.cls)).map some = ([479, 1125, 1126, 1302, 479, 1104, 1105, 1294, 479, 479, 1248, 1249, 1303, 1088, 1108, 1109, 1296, 479, 1113, 1114, 1297] : List Nat).map (fun i => lw_tbl[i]?) := by rfl
set_option maxRecDepth 100000 in
theorem zg_119_0 : (zl_119_0.flatMap (zz_wr zt_hh zp_P zt_cl zm_119.1.1.cls)).all goodWord = true := by decide +kernel
set_option maxRecDepth 100000 in
theorem zr_119_0 : (zl_119_0.flatMap (zz_wn zp_P zm_119.1.1.cls)).map some = ([1295] : List Nat).map (fun i => lw_tbl[i]?) := by rfl
set_option maxRecDepth 100000 in
theorem zs_119_0 : (zl_119_0.flatMap (zz_wn zp_P zm_119.1.1.cls)).all zz_isN = true := by decide +kernel
set_option maxRecDepth 100000 in
theorem zb_119_0 : zl_119_0.all (fun r => zz_wb zt_hh zp_P zt_cl zt_tf zt_fd zt_nf zm_119.1.1.cls zm_119.1.1.name r) = true := by decide +kernel
set_option maxRecDepth 100000 in
theorem zy_119_0 : zl_119_0.all (fun r => zz_tb zt_hh zp_P zm_119 r) = true := by decide +kernel
theorem zw_119 : zz_okW zt_hh zp_P zt_cl zt_tf zt_fd zt_nf zt_T zt_N zm_119 := List.forall_mem_cons.mpr ⟨(zz_w_okL zd_119_0 zb_119_0 (zz_places goodWord zq_119_0 zg_119_0) (zz_places zz_isN zr_119_0 zs_119_0) zy_119_0), (fun _ h => absurd h List.not_mem_nil)⟩
set_option maxRecDepth 100000 in
theorem zq_119 : [zz_cw zt_hh zm_119, Cond.initialized zm_119.1.1.cls].map some = ([1448, 226] : List Nat).map (fun i => lw_tbl[i]?) := by rfl
set_option maxRecDepth 100000 in
theorem zg_119 : [zz_cw zt_hh zm_119, Cond.initialized zm_119.1.1.cls].all goodWord = true := by decide +kernel
set_option maxRecDepth 100000 in
theorem zb_119 : (plainName zm_119.1.1.cls && (decide (zm_119.1.1.cls ≠ "java/lang/invoke/MethodHandle" ∧ zm_119.1.1.cls ≠ "java/lang/invoke/VarHandle") && decide (zm_119.1.2.2.1 ≤ 40))) = true := by decide +kernel
theorem zo_119 : zz_okM zt_hh zp_P zt_cl zt_tf zt_fd zt_nf zt_T zt_N zm_119 := zz_w_okM zw_119 zb_119 (zz_places goodWord zq_119 zg_119)
set_option maxRecDepth 100000 in
theorem zd_120_0 : ∀ r ∈ zl_120_0, decode zm_120.1.2.1 r.1 = .ok (r.2.1, r.2.2.1) := by decide +kernel
set_option maxRecDepth 100000 in
theorem zq_120_0 : (zl_120_0.flatMap (zz_wr zt_hh zp_P zt_cl zm_120.1.1.cls)).map some = ([391, 393] : List Nat).map (fun i => lw_tbl[i]?) := by rfl
set_option maxRecDepth 100000 in
theorem zg_120_0 : (zl_120_0.flatMap (zz_wr zt_hh zp_P zt_cl zm_120.1.1.cls)).all goodWord = true := by decide +kernel
set_option maxRecDepth 100000 in
theorem zr_120_0 : (zl_120_0.flatMap (zz_wn zp_P zm_120.1.1.cls)).map some = ([] : List Nat).map (fun i => lw_tbl[i]?) := by rfl
set_option maxRecDepth 100000 in
theorem zs_120_0 : (zl_120_0.flatMap (zz_wn zp_P zm_120.1.1.cls)).all zz_isN = true := by decide +kernel
set_option maxRecDepth 100000 in
theorem zb_120_0 : zl_120_0.all (fun r => zz_wb zt_hh zp_P zt_cl zt_tf zt_fd zt_nf zm_120.1.1.cls zm_120.1.1.name r) = true := by decide +kernel
set_option maxRecDepth 100000 in
theorem zy_120_0 : zl_120_0.all (fun r => zz_tb zt_hh zp_P zm_120 r) = true := by decide +kernel
theorem zw_120 : zz_okW zt_hh zp_P zt_cl zt_tf zt_fd zt_nf zt_T zt_N zm_120 := List.forall_mem_cons.mpr ⟨(zz_w_okL zd_120_0 zb_120_0 (zz_places goodWord zq_120_0 zg_120_0) (zz_places zz_isN zr_120_0 zs_120_0) zy_120_0), (fun _ h => absurd h List.not_mem_nil)⟩
set_option maxRecDepth 100000 in
theorem zq_120 : [zz_cw zt_hh zm_120, Cond.initialized zm_120.1.1.cls].map some = ([1074, 221] : List Nat).map (fun i => lw_tbl[i]?) := by rfl
set_option maxRecDepth 100000 in
theorem zg_120 : [zz_cw zt_hh zm_120, Cond.initialized zm_120.1.1.cls].all goodWord = true := by decide +kernel
set_option maxRecDepth 100000 in
theorem zb_120 : (plainName zm_120.1.1.cls && (decide (zm_120.1.1.cls ≠ "java/lang/invoke/MethodHandle" ∧ zm_120.1.1.cls ≠ "java/lang/invoke/VarHandle") && decide (zm_120.1.2.2.1 ≤ 40))) = true := by decide +kernel
theorem zo_120 : zz_okM zt_hh zp_P zt_cl zt_tf zt_fd zt_nf zt_T zt_N zm_120 := zz_w_okM zw_120 zb_120 (zz_places goodWord zq_120 zg_120)
set_option maxRecDepth 100000 in
theorem zd_121_0 : ∀ r ∈ zl_121_0, decode zm_121.1.2.1 r.1 = .ok (r.2.1, r.2.2.1) := by decide +kernel
set_option maxRecDepth 100000 in
theorem zq_121_0 : (zl_121_0.flatMap (zz_wr zt_hh zp_P zt_cl zm_121.1.1.cls)).map some = ([393] : List Nat).map (fun i => lw_tbl[i]?) := by rfl
set_option maxRecDepth 100000 in
theorem zg_121_0 : (zl_121_0.flatMap (zz_wr zt_hh zp_P zt_cl zm_121.1.1.cls)).all goodWord = true := by decide +kernel
set_option maxRecDepth 100000 in
theorem zr_121_0 : (zl_121_0.flatMap (zz_wn zp_P zm_121.1.1.cls)).map some = ([] : List Nat).map (fun i => lw_tbl[i]?) := by rfl
set_option maxRecDepth 100000 in
theorem zs_121_0 : (zl_121_0.flatMap (zz_wn zp_P zm_121.1.1.cls)).all zz_isN = true := by decide +kernel
set_option maxRecDepth 100000 in
theorem zb_121_0 : zl_121_0.all (fun r => zz_wb zt_hh zp_P zt_cl zt_tf zt_fd zt_nf zm_121.1.1.cls zm_121.1.1.name r) = true := by decide +kernel
set_option maxRecDepth 100000 in
theorem zy_121_0 : zl_121_0.all (fun r => zz_tb zt_hh zp_P zm_121 r) = true := by decide +kernel
theorem zw_121 : zz_okW zt_hh zp_P zt_cl zt_tf zt_fd zt_nf zt_T zt_N zm_121 := List.forall_mem_cons.mpr ⟨(zz_w_okL zd_121_0 zb_121_0 (zz_places goodWord zq_121_0 zg_121_0) (zz_places zz_isN zr_121_0 zs_121_0) zy_121_0), (fun _ h => absurd h List.not_mem_nil)⟩
set_option maxRecDepth 100000 in
theorem zq_121 : [zz_cw zt_hh zm_121, Cond.initialized zm_121.1.1.cls].map some = ([1200, 221] : List Nat).map (fun i => lw_tbl[i]?) := by rfl
set_option maxRecDepth 100000 in
theorem zg_121 : [zz_cw zt_hh zm_121, Cond.initialized zm_121.1.1.cls].all goodWord = true := by decide +kernel
set_option maxRecDepth 100000 in
theorem zb_121 : (plainName zm_121.1.1.cls && (decide (zm_121.1.1.cls ≠ "java/lang/invoke/MethodHandle" ∧ zm_121.1.1.cls ≠ "java/lang/invoke/VarHandle") && decide (zm_121.1.2.2.1 ≤ 40))) = true := by decide +kernel
theorem zo_121 : zz_okM zt_hh zp_P zt_cl zt_tf zt_fd zt_nf zt_T zt_N zm_121 := zz_w_okM zw_121 zb_121 (zz_places goodWord zq_121 zg_121)
set_option maxRecDepth 100000 in
theorem zd_122_0 : ∀ r ∈ zl_122_0, decode zm_122.1.2.1 r.1 = .ok (r.2.1, r.2.2.1) := by decide +kernel
set_option maxRecDepth 100000 in
theorem zq_122_0 : (zl_122_0.flatMap (zz_wr zt_hh zp_P zt_cl zm_122.1.1.cls)).map some = ([393] : List Nat).map (fun i => lw_tbl[i]?) := by rfl
set_option maxRecDepth 100000 in
theorem zg_122_0 : (zl_122_0.flatMap (zz_wr zt_hh zp_P zt_cl zm_122.1.1.cls)).all goodWord = true := by decide +kernel
set_option maxRecDepth 100000 in
theorem zr_122_0 : (zl_122_0.flatMap (zz_wn zp_P zm_122.1.1.cls)).map some = ([] : List Nat).map (fun i => lw_tbl[i]?) := by rfl
set_option maxRecDepth 100000 in
theorem zs_122_0 : (zl_122_0.flatMap (zz_wn zp_P zm_122.1.1.cls)).all zz_isN = true := by decide +kernel
set_option maxRecDepth 100000 in
theorem zb_122_0 : zl_122_0.all (fun r => zz_wb zt_hh zp_P zt_cl zt_tf zt_fd zt_nf zm_122.1.1.cls zm_122.1.1.name r) = true := by decide +kernel
set_option maxRecDepth 100000 in
theorem zy_122_0 : zl_122_0.all (fun r => zz_tb zt_hh zp_P zm_122 r) = true := by decide +kernel
theorem zw_122 : zz_okW zt_hh zp_P zt_cl zt_tf zt_fd zt_nf zt_T zt_N zm_122 := List.forall_mem_cons.mpr ⟨(zz_w_okL zd_122_0 zb_122_0 (zz_places goodWord zq_122_0 zg_122_0) (zz_places zz_isN zr_122_0 zs_122_0) zy_122_0), (fun _ h => absurd h List.not_mem_nil)⟩
set_option maxRecDepth 100000 in
theorem zq_122 : [zz_cw zt_hh zm_122, Cond.initialized zm_122.1.1.cls].map some = ([1106, 221] : List Nat).map (fun i => lw_tbl[i]?) := by rfl
set_option maxRecDepth 100000 in
theorem zg_122 : [zz_cw zt_hh zm_122, Cond.initialized zm_122.1.1.cls].all goodWord = true := by decide +kernel
set_option maxRecDepth 100000 in
theorem zb_122 : (plainName zm_122.1.1.cls && (decide (zm_122.1.1.cls ≠ "java/lang/invoke/MethodHandle" ∧ zm_122.1.1.cls ≠ "java/lang/invoke/VarHandle") && decide (zm_122.1.2.2.1 ≤ 40))) = true := by decide +kernel
theorem zo_122 : zz_okM zt_hh zp_P zt_cl zt_tf zt_fd zt_nf zt_T zt_N zm_122 := zz_w_okM zw_122 zb_122 (zz_places goodWord zq_122 zg_122)
set_option maxRecDepth 100000 in
theorem zd_123_0 : ∀ r ∈ zl_123_0, decode zm_123.1.2.1 r.1 = .ok (r.2.1, r.2.2.1) := by decide +kernel
set_option maxRecDepth 100000 in
theorem zq_123_0 : (zl_123_0.flatMap (zz_wr zt_hh zp_P zt_cl zm_123.1.1.cls)).map some = ([393, 392, 392, 393, 646, 1111, 392, 392, 393, 393, 393] : List Nat).map (fun i => lw_tbl[i]?) := by rfl
set_option maxRecDepth 100000 in
theorem zg_123_0 : (zl_123_0.flatMap (zz_wr zt_hh zp_P zt_cl zm_123.1.1.cls)).all goodWord = true := by decide +kernel
set_option maxRecDepth 100000 in
theorem zr_123_0 : (zl_123_0.flatMap (zz_wn zp_P zm_123.1.1.cls)).map some = ([] : List Nat).map (fun i => lw_tbl[i]?) := by rfl
set_option maxRecDepth 100000 in
theorem zs_123_0 : (zl_123_0.flatMap (zz_wn zp_P zm_123.1.1.cls)).all zz_isN = true := by decide +kernel
set_option maxRecDepth 100000 in
theorem zb_123_0 : zl_123_0.all (fun r => zz_wb zt_hh zp_P zt_cl zt_tf zt_fd zt_nf zm_123.1.1.cls zm_123.1.1.name r) = true := by decide +kernel
set_option maxRecDepth 100000 in
theorem zy_123_0 : zl_123_0.all (fun r => zz_tb zt_hh zp_P zm_123 r) = true := by decide +kernel
theorem zw_123 : zz_okW zt_hh zp_P zt_cl zt_tf zt_fd zt_nf zt_T zt_N zm_123 := List.forall_mem_cons.mpr ⟨(zz_w_okL zd_123_0 zb_123_0 (zz_places goodWord zq_123_0 zg_123_0) (zz_places zz_isN zr_123_0 zs_123_0) zy_123_0), (fun _ h => absurd h List.not_mem_nil)⟩
set_option maxRecDepth 100000 in
theorem zq_123 : [zz_cw zt_hh zm_123, Cond.initialized zm_123.1.1.cls].map some = ([1110, 221] : List Nat).map (fun i => lw_tbl[i]?) := by rfl
set_option maxRecDepth 100000 in
theorem zg_123 : [zz_cw zt_hh zm_123, Cond.initialized zm_123.1.1.cls].all goodWord = true := by decide +kernel
set_option maxRecDepth 100000 in
theorem zb_123 : (plainName zm_123.1.1.cls && (decide (zm_123.1.1.cls ≠ "java/lang/invoke/MethodHandle" ∧ zm_123.1.1.cls ≠ "java/lang/invoke/VarHandle") && decide (zm_123.1.2.2.1 ≤ 40))) = true := by decide +kernel
theorem zo_123 : zz_okM zt_hh zp_P zt_cl zt_tf zt_fd zt_nf zt_T zt_N zm_123 := zz_w_okM zw_123 zb_123 (zz_places goodWord zq_123 zg_123)
set_option maxRecDepth 100000 in
theorem zd_124_0 : ∀ r ∈ zl_124_0, decode zm_124.1.2.1 r.1 = .ok (r.2.1, r.2.2.1) := by decide +kernel
set_option maxRecDepth 100000 in
theorem zq_124_0 : (zl_124_0.flatMap (zz_wr zt_hh zp_P zt_cl zm_124.1.1.cls)).map some = ([1223, 1224, 1363, 1108, 1109, 1362] : List Nat).map (fun i => lw_tbl[i]?) := by rfl
set_option maxRecDepth 100000 in
theorem zg_124_0 : (zl_124_0.flatMap (zz_wr zt_hh zp_P zt_cl zm_124.1.1.cls)).all goodWord = true := by decide +kernel
set_option maxRecDepth 100000 in
theorem zr_124_0 : (zl_124_0.flatMap (zz_wn zp_P zm_124.1.1.cls)).map some = ([] : List Nat).map (fun i => lw_tbl[i]?) := by rfl
set_option maxRecDepth 100000 in
theorem zs_124_0 : (zl_124_0.flatMap (zz_wn zp_P zm_124.1.1.cls)).all zz_isN = true := by decide +kernel
set_option maxRecDepth 100000 in
theorem zb_124_0 : zl_124_0.all (fun r => zz_wb zt_hh zp_P zt_cl zt_tf zt_fd zt_nf zm_124.1.1.cls zm_124.1.1.name r) = true := by decide +kernel
set_option maxRecDepth 100000 in
theorem zy_124_0 : zl_124_0.all (fun r => zz_tb zt_hh zp_P zm_124 r) = true := by decide +kernel
theorem zw_124 : zz_okW zt_hh zp_P zt_cl zt_tf zt_fd zt_nf zt_T zt_N zm_124 := List.forall_mem_cons.mpr ⟨(zz_w_okL zd_124_0 zb_124_0 (zz_places goodWord zq_124_0 zg_124_0) (zz_places zz_isN zr_124_0 zs_124_0) zy_124_0), (fun _ h => absurd h List.not_mem_nil)⟩
set_option maxRecDepth 100000 in
theorem zq_124 : [zz_cw zt_hh zm_124, Cond.initialized zm_124.1.1.cls].map some = ([1412, 221] : List Nat).map (fun i => lw_tbl[i]?) := by rfl
set_option maxRecDepth 100000 in
theorem zg_124 : [zz_cw zt_hh zm_124, Cond.initialized zm_124.1.1.cls].all goodWord = true := by decide +kernel
set_option maxRecDepth 100000 in
theorem zb_124 : (plainName zm_124.1.1.cls && (decide (zm_124.1.1.cls ≠ "java/lang/invoke/MethodHandle" ∧ zm_124.1.1.cls ≠ "java/lang/invoke/VarHandle") && decide (zm_124.1.2.2.1 ≤ 40))) = true := by decide +kernel
theorem zo_124 : zz_okM zt_hh zp_P zt_cl zt_tf zt_fd zt_nf zt_T zt_N zm_124 := zz_w_okM zw_124 zb_124 (zz_places goodWord zq_124 zg_124)
set_option maxRecDepth 100000 in
theorem zd_125_0 : ∀ r ∈ zl_125_0, decode zm_125.1.2.1 r.1 = .ok (r.2.1, r.2.2.1) := by decide +kernel
set_option maxRecDepth 100000 in
theorem zq_125_0 : (zl_125_0.flatMap (zz_wr zt_hh zp_P zt_cl zm_125.1.1.cls)).map some = ([1210, 1108, 1109, 1362, 1125, 1126, 1124, 1223, 1224, 1363, 1108, 1109, 1362] : List Nat).map (fun i => lw_tbl[i]?) := by rfl
set_option maxRecDepth 100000 in
theorem zg_125_0 : (zl_125_0.flatMap (zz_wr zt_hh zp_P zt_cl zm_125.1.1.cls)).all goodWord = true := by decide +kernel
set_option maxRecDepth 100000 in
theorem zr_125_0 : (zl_125_0.flatMap (zz_wn zp_P zm_125.1.1.cls)).map some = ([1267] : List Nat).map (fun i => lw_tbl[i]?) := by rfl
set_option maxRecDepth 100000 in
theorem zs_125_0 : (zl_125_0.flatMap (zz_wn zp_P zm_125.1.1.cls)).all zz_isN = true := by decide +kernel
set_option maxRecDepth 100000 in
theorem zb_125_0 : zl_125_0.all (fun r => zz_wb zt_hh zp_P zt_cl zt_tf zt_fd zt_nf zm_125.1.1.cls zm_125.1.1.name r) = true := by decide +kernel
set_option maxRecDepth 100000 in
theorem zy_125_0 : zl_125_0.all (fun r => zz_tb zt_hh zp_P zm_125 r) = true := by decide +kernel
theorem zw_125 : zz_okW zt_hh zp_P zt_cl zt_tf zt_fd zt_nf zt_T zt_N zm_125 := List.forall_mem_cons.mpr ⟨(zz_w_okL zd_125_0 zb_125_0 (zz_places goodWord zq_125_0 zg_125_0) (zz_places zz_isN zr_125_0 zs_125_0) zy_125_0), (fun _ h => absurd h List.not_mem_nil)⟩
set_option maxRecDepth 100000 in
theorem zq_125 : [zz_cw zt_hh zm_125, Cond.initialized zm_125.1.1.cls].map some = ([1361, 221] : List Nat).map (fun i => lw_tbl[i]?) := by rfl
set_option maxRecDepth 100000 in
theorem zg_125 : [zz_cw zt_hh zm_125, Cond.initialized zm_125.1.1.cls].all goodWord = true := by decide +kernel
set_option maxRecDepth 100000 in
theorem zb_125 : (plainName zm_125.1.1.cls && (decide (zm_125.1.1.cls ≠ "java/lang/invoke/MethodHandle" ∧ zm_125.1.1.cls ≠ "java/lang/invoke/VarHandle") && decide (zm_125.1.2.2.1 ≤ 40))) = true := by decide +kernel
theorem zo_125 : zz_okM zt_hh zp_P zt_cl zt_tf zt_fd zt_nf zt_T zt_N zm_125 := zz_w_okM zw_125 zb_125 (zz_places goodWord zq_125 zg_125)
set_option maxRecDepth 100000 in
theorem zd_126_0 : ∀ r ∈ zl_126_0, decode zm_126.1.2.1 r.1 = .ok (r.2.1, r.2.2.1) := by decide +kernel
set_option maxRecDepth 100000 in
theorem zq_126_0 : (zl_126_0.flatMap (zz_wr zt_hh zp_P zt_cl zm_126.1.1.cls)).map some = ([393, 1117, 393, 392, 1122, 39, 1120] : List Nat).map (fun i => lw_tbl[i]?) := by rfl
set_option maxRecDepth 100000 in
theorem zg_126_0 : (zl_126_0.flatMap (zz_wr zt_hh zp_P zt_cl zm_126.1.1.cls)).all goodWord = true := by decide +kernel
set_option maxRecDepth 100000 in
theorem zr_126_0 : (zl_126_0.flatMap (zz_wn zp_P zm_126.1.1.cls)).map some = ([1116] : List Nat).map (fun i => lw_tbl[i]?) := by rfl
set_option maxRecDepth 100000 in
theorem zs_126_0 : (zl_126_0.flatMap (zz_wn zp_P zm_126.1.1.cls)).all zz_isN = true := by decide +kernel
set_option maxRecDepth 100000 in
theorem zb_126_0 : zl_126_0.all (fun r => zz_wb zt_hh zp_P zt_cl zt_tf zt_fd zt_nf zm_126.1.1.cls zm_126.1.1.name r) = true := by decide +kernel
set_option maxRecDepth 100000 in
theorem zd_126_1 : ∀ r ∈ zl_126_1, decode zm_126.1.2.1 r.1 = .ok (r.2.1, r.2.2.1) := by decide +kernel
set_option maxRecDepth 100000 in
theorem zq_126_1 : (zl_126_1.flatMap (zz_wr zt_hh zp_P zt_cl zm_126.1.1.cls)).map some = ([392, 1125, 1126, 1124, 392, 1130, 40, 1128, 1133, 701, 228, 702] : List Nat).map (fun i => lw_tbl[i]?) := by rfl
set_option maxRecDepth 100000 in
theorem zg_126_1 : (zl_126_1.flatMap (zz_wr zt_hh zp_P zt_cl zm_126.1.1.cls)).all goodWord = true := by decide +kernel
set_option maxRecDepth 100000 in
theorem zr_126_1 : (zl_126_1.flatMap (zz_wn zp_P zm_126.1.1.cls)).map some = ([] : List Nat).map (fun i => lw_tbl[i]?) := by rfl
set_option maxRecDepth 100000 in
theorem zs_126_1 : (zl_126_1.flatMap (zz_wn zp_P zm_126.1.1.cls)).all zz_isN = true := by decide +kernel
set_option maxRecDepth 100000 in
theorem zb_126_1 : zl_126_1.all (fun r => zz_wb zt_hh zp_P zt_cl zt_tf zt_fd zt_nf zm_126.1.1.cls zm_126.1.1.name r) = true := by decide +kernel
set_option maxRecDepth 100000 in
theorem zd_126_2 : ∀ r ∈ zl_126_2, decode zm_126.1.2.1 r.1 = .ok (r.2.1, r.2.2.1) := by decide +kernel
set_option maxRecDepth 100000 in
theorem zq_126_2 : (zl_126_2.flatMap (zz_wr zt_hh zp_P zt_cl zm_126.1.1.cls)).map some = ([1117, 391, 391, 391, 391, 390, 390, 391, 646, 1111, 390, 390] : List Nat).map (fun i => lw_tbl[i]?) := by rfl
set_option maxRecDepth 100000 in
theorem zg_126_2 : (zl_126_2.flatMap (zz_wr zt_hh zp_P zt_cl zm_126.1.1.cls)).all goodWord = true := by decide +kernel
set_option maxRecDepth 100000 in
theorem zr_126_2 : (zl_126_2.flatMap (zz_wn zp_P zm_126.1.1.cls)).map some = ([1116] : List Nat).map (fun i => lw_tbl[i]?) := by rfl
set_option maxRecDepth 100000 in
theorem zs_126_2 : (zl_126_2.flatMap (zz_wn zp_P zm_126.1.1.cls)).all zz_isN = true := by decide +kernel
set_option maxRecDepth 100000 in
theorem zb_126_2 : zl_126_2.all (fun r => zz_wb zt_hh zp_P zt_cl zt_tf zt_fd zt_nf zm_126.1.1.cls zm_126.1.1.name r) = true := by decide +kernel
set_option maxRecDepth 100000 in
theorem zd_126_3 : ∀ r ∈ zl_126_3, decode zm_126.1.2.1 r.1 = .ok (r.2.1, r.2.2.1) := by decide +kernel
set_option maxRecDepth 100000 in
theorem zq_126_3 : (zl_126_3.flatMap (zz_wr zt_hh zp_P zt_cl zm_126.1.1.cls)).map some = ([390, 390, 390] : List Nat).map (fun i => lw_tbl[i]?) := by rfl
set_option maxRecDepth 100000 in
theorem zg_126_3 : (zl_126_3.flatMap (zz_wr zt_hh zp_P zt_cl zm_126.1.1.cls)).all goodWord = true := by decide +kernel
set_option maxRecDepth 100000 in
theorem zr_126_3 : (zl_126_3.flatMap (zz_wn zp_P zm_126.1.1.cls)).map some = ([] : List Nat).map (fun i => lw_tbl[i]?) := by rfl
set_option maxRecDepth 100000 in
theorem zs_126_3 : (zl_126_3.flatMap (zz_wn zp_P zm_126.1.1.cls)).all zz_isN = true := by decide +kernel
set_option maxRecDepth 100000 in
theorem zb_126_3 : zl_126_3.all (fun r => zz_wb zt_hh zp_P zt_cl zt_tf zt_fd zt_nf zm_126.1.1.cls zm_126.1.1.name r) = true := by decide +kernel
set_option maxRecDepth 100000 in
theorem zd_126_4 : ∀ r ∈ zl_126_4, decode zm_126.1.2.1 r.1 = .ok (r.2.1, r.2.2.1) := by decide +kernel
set_option maxRecDepth 100000 in
theorem zq_126_4 : (zl_126_4.flatMap (zz_wr zt_hh zp_P zt_cl zm_126.1.1.cls)).map some = ([390, 392, 392, 1088] : List Nat).map (fun i => lw_tbl[i]?) := by rfl
set_option maxRecDepth 100000 in
theorem zg_126_4 : (zl_126_4.flatMap (zz_wr zt_hh zp_P zt_cl zm_126.1.1.cls)).all goodWord = true := by decide +kernel
set_option maxRecDepth 100000 in
theorem zr_126_4 : (zl_126_4.flatMap (zz_wn zp_P zm_126.1.1.cls)).map some = ([1134] : List Nat).map (fun i => lw_tbl[i]?) := by rfl
set_option maxRecDepth 100000 in
theorem zs_126_4 : (zl_126_4.flatMap (zz_wn zp_P zm_126.1.1.cls)).all zz_isN = true := by decide +kernel
set_option maxRecDepth 100000 in
theorem zb_126_4 : zl_126_4.all (fun r => zz_wb zt_hh zp_P zt_cl zt_tf zt_fd zt_nf zm_126.1.1.cls zm_126.1.1.name r) = true := by decide +kernel
set_option maxRecDepth 100000 in
theorem zy_126_0 : zl_126_0.all (fun r => zz_tb zt_hh zp_P zm_126 r) = true := by decide +kernel
set_option maxRecDepth 100000 in
theorem zy_126_1 : zl_126_1.all (fun r => zz_tb zt_hh zp_P zm_126 r) = true := by decide +kernel
set_option maxRecDepth 100000 in
theorem zy_126_2 : zl_126_2.all (fun r => zz_tb zt_hh zp_P zm_126 r) = true := by decide +kernel
set_option maxRecDepth 100000 in
theorem zy_126_3 : zl_126_3.all (fun r => zz_tb zt_hh zp_P zm_126 r) = true := by decide +kernel
set_option maxRecDepth 100000 in
theorem zy_126_4 : zl_126_4.all (fun r => zz_tb zt_hh zp_P zm_126 r) = true := by decide +kernel
theorem zw_126 : zz_okW zt_hh zp_P zt_cl zt_tf zt_fd zt_nf zt_T zt_N zm_126 := List.forall_mem_cons.mpr ⟨(zz_w_okL zd_126_0 zb_126_0 (zz_places goodWord zq_126_0 zg_126_0) (zz_places zz_isN zr_126_0 zs_126_0) zy_126_0), List.forall_mem_cons.mpr ⟨(zz_w_okL zd_126_1 zb_126_1 (zz_places goodWord zq_126_1 zg_126_1) (zz_places zz_isN zr_126_1 zs_126_1) zy_126_1), List.forall_mem_cons.mpr ⟨(zz_w_okL zd_126_2 zb_126_2 (zz_places goodWord zq_126_2 zg_126_2) (zz_places zz_isN zr_126_2 zs_126_2) zy_126_2), List.forall_mem_cons.mpr ⟨(zz_w_okL zd_126_3 zb_126_3 (zz_places goodWord zq_126_3 zg_126_3) (zz_places zz_isN zr_126_3 zs_126_3) zy_126_3), List.forall_mem_cons.mpr ⟨(zz_w_okL zd_126_4 zb_126_4 (zz_places goodWord zq_126_4 zg_126_4) (zz_places zz_isN zr_126_4 zs_126_4) zy_126_4), (fun _ h => absurd h List.not_mem_nil)⟩⟩⟩⟩⟩
set_option maxRecDepth 100000 in
theorem zq_126 : [zz_cw zt_hh zm_126, Cond.initialized zm_126.1.1.cls].map some = ([1115, 221] : List Nat).map (fun i => lw_tbl[i]?) := by rfl
set_option maxRecDepth 100000 in
theorem zg_126 : [zz_cw zt_hh zm_126, Cond.initialized zm_126.1.1.cls].all goodWord = true := by decide +kernel
set_option maxRecDepth 100000 in
theorem zb_126 : (plainName zm_126.1.1.cls && (decide (zm_126.1.1.cls ≠ "java/lang/invoke/MethodHandle" ∧ zm_126.1.1.cls ≠ "java/lang/invoke/VarHandle") && decide (zm_126.1.2.2.1 ≤ 40))) = true := by decide +kernel
theorem zo_126 : zz_okM zt_hh zp_P zt_cl zt_tf zt_fd zt_nf zt_T zt_N zm_126 := zz_w_okM zw_126 zb_126 (zz_places goodWord zq_126 zg_126)
set_option maxRecDepth 100000 in
theorem zd_127_0 : ∀ r ∈ zl_127_0, decode zm_127.1.2.1 r.1 = .ok (r.2.1, r.2.2.1) := by decide +kernel
set_option maxRecDepth 100000 in
theorem zq_127_0 : (zl_127_0.flatMap (zz_wr zt_hh zp_P zt_cl zm_127.1.1.cls)).map some = ([393, 392, 1210, 393, 392, 1210] : List Nat).map (fun i => lw_tbl[i]?) := by rfl
set_option maxRecDepth 100000 in
theorem zg_127_0 : (zl_127_0.flatMap (zz_wr zt_hh zp_P zt_cl zm_127.1.1.cls)).all goodWord = true := by decide +kernel
set_option maxRecDepth 100000 in
theorem zr_127_0 : (zl_127_0.flatMap (zz_wn zp_P zm_127.1.1.cls)).map some = ([1267, 1267] : List Nat).map (fun i => lw_tbl[i]?) := by rfl
set_option maxRecDepth 100000 in
theorem zs_127_0 : (zl_127_0.flatMap (zz_wn zp_P zm_127.1.1.cls)).all zz_isN = true := by decide +kernel
set_option maxRecDepth 100000 in
theorem zb_127_0 : zl_127_0.all (fun r => zz_wb zt_hh zp_P zt_cl zt_tf zt_fd zt_nf zm_127.1.1.cls zm_127.1.1.name r) = true := by decide +kernel
set_option maxRecDepth 100000 in
theorem zd_127_1 : ∀ r ∈ zl_127_1, decode zm_127.1.2.1 r.1 = .ok (r.2.1, r.2.2.1) := by decide +kernel
set_option maxRecDepth 100000 in
theorem zq_127_1 : (zl_127_1.flatMap (zz_wr zt_hh zp_P zt_cl zm_127.1.1.cls)).map some = ([1113, 1114, 1466, 1117] : List Nat).map (fun i => lw_tbl[i]?) := by rfl
set_option maxRecDepth 100000 in
theorem zg_127_1 : (zl_127_1.flatMap (zz_wr zt_hh zp_P zt_cl zm_127.1.1.cls)).all goodWord = true := by decide +kernel
set_option maxRecDepth 100000 in
theorem zr_127_1 : (zl_127_1.flatMap (zz_wn zp_P zm_127.1.1.cls)).map some = ([1116] : List Nat).map (fun i => lw_tbl[i]?) := by rfl
set_option maxRecDepth 100000 in
theorem zs_127_1 : (zl_127_1.flatMap (zz_wn zp_P zm_127.1.1.cls)).all zz_isN = true := by decide +kernel
set_option maxRecDepth 100000 in
theorem zb_127_1 : zl_127_1.all (fun r => zz_wb zt_hh zp_P zt_cl zt_tf zt_fd zt_nf zm_127.1.1.cls zm_127.1.1.name r) = true := by decide +kernel
set_option maxRecDepth 100000 in
theorem zy_127_0 : zl_127_0.all (fun r => zz_tb zt_hh zp_P zm_127 r) = true := by decide +kernel
set_option maxRecDepth 100000 in
theorem zy_127_1 : zl_127_1.all (fun r => zz_tb zt_hh zp_P zm_127 r) = true := by decide +kernel
theorem zw_127 : zz_okW zt_hh zp_P zt_cl zt_tf zt_fd zt_nf zt_T zt_N zm_127 := List.forall_mem_cons.mpr ⟨(zz_w_okL zd_127_0 zb_127_0 (zz_places goodWord zq_127_0 zg_127_0) (zz_places zz_isN zr_127_0 zs_127_0) zy_127_0), List.forall_mem_cons.mpr ⟨(zz_w_okL zd_127_1 zb_127_1 (zz_places goodWord zq_127_1 zg_127_1) (zz_places zz_isN zr_127_1 zs_127_1) zy_127_1), (fun _ h => absurd h List.not_mem_nil)⟩⟩
set_option maxRecDepth 100000 in
theorem zq_127 : [zz_cw zt_hh zm_127, Cond.initialized zm_127.1.1.cls].map some = ([1465, 221] : List Nat).map (fun i => lw_tbl[i]?) := by rfl
set_option maxRecDepth 100000 in
theorem zg_127 : [zz_cw zt_hh zm_127, Cond.initialized zm_127.1.1.cls].all goodWord = true := by decide +kernel
set_option maxRecDepth 100000 in
theorem zb_127 : (plainName zm_127.1.1.cls && (decide (zm_127.1.1.cls ≠ "java/lang/invoke/MethodHandle" ∧ zm_127.1.1.cls ≠ "java/lang/invoke/VarHandle") && decide (zm_127.1.2.2.1 ≤ 40))) = true := by decide +kernel
theorem zo_127 : zz_okM zt_hh zp_P zt_cl zt_tf zt_fd zt_nf zt_T zt_N zm_127 := zz_w_okM zw_127 zb_127 (zz_places goodWord zq_127 zg_127)
set_option maxRecDepth 100000 in
theorem zd_128_0 : ∀ r ∈ zl_128_0, decode zm_128.1.2.1 r.1 = .ok (r.2.1, r.2.2.1) := by decide +kernel
set_option maxRecDepth 100000 in
theorem zq_128_0 : (zl_128_0.flatMap (zz_wr zt_hh zp_P zt_cl zm_128.1.1.cls)).map some = ([391, 390] : List Nat).map (fun i => lw_tbl[i]?) := by rfl
set_option maxRecDepth 100000 in
theorem zg_128_0 : (zl_128_0.flatMap (zz_wr zt_hh zp_P zt_cl zm_128.1.1.cls)).all goodWord = true := by decide +kernel
set_option maxRecDepth 100000 in
theorem zr_128_0 : (zl_128_0.flatMap (zz_wn zp_P zm_128.1.1.cls)).map some = ([] : List Nat).map (fun i => lw_tbl[i]?) := by rfl
set_option maxRecDepth 100000 in
theorem zs_128_0 : (zl_128_0.flatMap (zz_wn zp_P zm_128.1.1.cls)).all zz_isN = true := by decide +kernel
set_option maxRecDepth 100000 in
theorem zb_128_0 : zl_128_0.all (fun r => zz_wb zt_hh zp_P zt_cl zt_tf zt_fd zt_nf zm_128.1.1.cls zm_128.1.1.name r) = true := by decide +kernel
set_option maxRecDepth 100000 in
theorem zy_128_0 : zl_128_0.all (fun r => zz_tb zt_hh zp_P zm_128 r) = true := by decide +kernel
theorem zw_128 : zz_okW zt_hh zp_P zt_cl zt_tf zt_fd zt_nf zt_T zt_N zm_128 := List.forall_mem_cons.mpr ⟨(zz_w_okL zd_128_0 zb_128_0 (zz_places goodWord zq_128_0 zg_128_0) (zz_places zz_isN zr_128_0 zs_128_0) zy_128_0), (fun _ h => absurd h List.not_mem_nil)⟩
set_option maxRecDepth 100000 in
theorem zq_128 : [zz_cw zt_hh zm_128, Cond.initialized zm_128.1.1.cls].map some = ([1127, 221] : List Nat).map (fun i => lw_tbl[i]?) := by rfl
set_option maxRecDepth 100000 in
theorem zg_128 : [zz_cw zt_hh zm_128, Cond.initialized zm_128.1.1.cls].all goodWord = true := by decide +kernel
set_option maxRecDepth 100000 in
theorem zb_128 : (plainName zm_128.1.1.cls && (decide (zm_128.1.1.cls ≠ "java/lang/invoke/MethodHandle" ∧ zm_128.1.1.cls ≠ "java/lang/invoke/VarHandle") && decide (zm_128.1.2.2.1 ≤ 40))) = true := by decide +kernel
theorem zo_128 : zz_okM zt_hh zp_P zt_cl zt_tf zt_fd zt_nf zt_T zt_N zm_128 := zz_w_okM zw_128 zb_128 (zz_places goodWord zq_128 zg_128)
set_option maxRecDepth 100000 in
theorem zd_129_0 : ∀ r ∈ zl_129_0, decode zm_129.1.2.1 r.1 = .ok (r.2.1, r.2.2.1) := by decide +kernel
set_option maxRecDepth 100000 in
theorem zq_129_0 : (zl_129_0.flatMap (zz_wr zt_hh zp_P zt_cl zm_129.1.1.cls)).map some = ([391, 390, 390] : List Nat).map (fun i => lw_tbl[i]?) := by rfl
set_option maxRecDepth 100000 in
theorem zg_129_0 : (zl_129_0.flatMap (zz_wr zt_hh zp_P zt_cl zm_129.1.1.cls)).all goodWord = true := by decide +kernel
set_option maxRecDepth 100000 in
theorem zr_129_0 : (zl_129_0.flatMap (zz_wn zp_P zm_129.1.1.cls)).map some = ([] : List Nat).map (fun i => lw_tbl[i]?) := by rfl
set_option maxRecDepth 100000 in
theorem zs_129_0 : (zl_129_0.flatMap (zz_wn zp_P zm_129.1.1.cls)).all zz_isN = true := by decide +kernel
set_option maxRecDepth 100000 in
theorem zb_129_0 : zl_129_0.all (fun r => zz_wb zt_hh zp_P zt_cl zt_tf zt_fd zt_nf zm_129.1.1.cls zm_129.1.1.name r) = true := by decide +kernel
set_option maxRecDepth 100000 in
theorem zd_129_1 : ∀ r ∈ zl_129_1, decode zm_129.1.2.1 r.1 = .ok (r.2.1, r.2.2.1) := by decide +kernel
set_option maxRecDepth 100000 in
theorem zq_129_1 : (zl_129_1.flatMap (zz_wr zt_hh zp_P zt_cl zm_129.1.1.cls)).map some = ([1088] : List Nat).map (fun i => lw_tbl[i]?) := by rfl
set_option maxRecDepth 100000 in
theorem zg_129_1 : (zl_129_1.flatMap (zz_wr zt_hh zp_P zt_cl zm_129.1.1.cls)).all goodWord = true := by decide +kernel
set_option maxRecDepth 100000 in
theorem zr_129_1 : (zl_129_1.flatMap (zz_wn zp_P zm_129.1.1.cls)).map some = ([1134] : List Nat).map (fun i => lw_tbl[i]?) := by rfl
set_option maxRecDepth 100000 in
theorem zs_129_1 : (zl_129_1.flatMap (zz_wn zp_P zm_129.1.1.cls)).all zz_isN = true := by decide +kernel
set_option maxRecDepth 100000 in
theorem zb_129_1 : zl_129_1.all (fun r => zz_wb zt_hh zp_P zt_cl zt_tf zt_fd zt_nf zm_129.1.1.cls zm_129.1.1.name r) = true := by decide +kernel
set_option maxRecDepth 100000 in
theorem zy_129_0 : zl_129_0.all (fun r => zz_tb zt_hh zp_P zm_129 r) = true := by decide +kernel
set_option maxRecDepth 100000 in
theorem zy_129_1 : zl_129_1.all (fun r => zz_tb zt_hh zp_P zm_129 r) = true := by decide +kernel
theorem zw_129 : zz_okW zt_hh zp_P zt_cl zt_tf zt_fd zt_nf zt_T zt_N zm_129 := List.forall_mem_cons.mpr ⟨(zz_w_okL zd_129_0 zb_129_0 (zz_places goodWord zq_129_0 zg_129_0) (zz_places zz_isN zr_129_0 zs_129_0) zy_129_0), List.forall_mem_cons.mpr ⟨(zz_w_okL zd_129_1 zb_129_1 (zz_places goodWord zq_129_1 zg_129_1) (zz_places zz_isN zr_129_1 zs_129_1) zy_129_1), (fun _ h => absurd h List.not_mem_nil)⟩⟩
set_option maxRecDepth 100000 in
theorem zq_129 : [zz_cw zt_hh zm_129, Cond.initialized zm_129.1.1.cls].map some = ([1225, 221] : List Nat).map (fun i => lw_tbl[i]?) := by rfl
set_option maxRecDepth 100000 in
theorem zg_129 : [zz_cw zt_hh zm_129, Cond.initialized zm_129.1.1.cls].all goodWord = true := by decide +kernel
set_option maxRecDepth 100000 in
theorem zb_129 : (plainName zm_129.1.1.cls && (decide (zm_129.1.1.cls ≠ "java/lang/invoke/MethodHandle" ∧ zm_129.1.1.cls ≠ "java/lang/invoke/VarHandle") && decide (zm_129.1.2.2.1 ≤ 40))) = true := by decide +kernel
theorem zo_129 : zz_okM zt_hh zp_P zt_cl zt_tf zt_fd zt_nf zt_T zt_N zm_129 := zz_w_okM zw_129 zb_129 (zz_places goodWord zq_129 zg_129)
set_option maxRecDepth 100000 in
theorem zd_130_0 : ∀ r ∈ zl_130_0, decode zm_130.1.2.1 r.1 = .ok (r.2.1, r.2.2.1) := by decide +kernel
set_option maxRecDepth 100000 in
theorem zq_130_0 : (zl_130_0.flatMap (zz_wr zt_hh zp_P zt_cl zm_130.1.1.cls)).map some = ([391, 390] : List Nat).map (fun i => lw_tbl[i]?) := by rfl
set_option maxRecDepth 100000 in
theorem zg_130_0 : (zl_130_0.flatMap (zz_wr zt_hh zp_P zt_cl zm_130.1.1.cls)).all goodWord = true := by decide +kernel
set_option maxRecDepth 100000 in
theorem zr_130_0 : (zl_130_0.flatMap (zz_wn zp_P zm_130.1.1.cls)).map some = ([] : List Nat).map (fun i => lw_tbl[i]?) := by rfl
set_option maxRecDepth 100000 in
theorem zs_130_0 : (zl_130_0.flatMap (zz_wn zp_P zm_130.1.1.cls)).all zz_isN = true := by decide +kernel
set_option maxRecDepth 100000 in
theorem zb_130_0 : zl_130_0.all (fun r => zz_wb zt_hh zp_P zt_cl zt_tf zt_fd zt_nf zm_130.1.1.cls zm_130.1.1.name r) = true := by decide +kernel
set_option maxRecDepth 100000 in
theorem zy_130_0 : zl_130_0.all (fun r => zz_tb zt_hh zp_P zm_130 r) = true := by decide +kernel
theorem zw_130 : zz_okW zt_hh zp_P zt_cl zt_tf zt_fd zt_nf zt_T zt_N zm_130 := List.forall_mem_cons.mpr ⟨(zz_w_okL zd_130_0 zb_130_0 (zz_places goodWord zq_130_0 zg_130_0) (zz_places zz_isN zr_130_0 zs_130_0) zy_130_0), (fun _ h => absurd h List.not_mem_nil)⟩
set_option maxRecDepth 100000 in
theorem zq_130 : [zz_cw zt_hh zm_130, Cond.initialized zm_130.1.1.cls].map some = ([1250, 221] : List Nat).map (fun i => lw_tbl[i]?) := by rfl
set_option maxRecDepth 100000 in
theorem zg_130 : [zz_cw zt_hh zm_130, Cond.initialized zm_130.1.1.cls].all goodWord = true := by decide +kernel
set_option maxRecDepth 100000 in
theorem zb_130 : (plainName zm_130.1.1.cls && (decide (zm_130.1.1.cls ≠ "java/lang/invoke/MethodHandle" ∧ zm_130.1.1.cls ≠ "java/lang/invoke/VarHandle") && decide (zm_130.1.2.2.1 ≤ 40))) = true := by decide +kernel
theorem zo_130 : zz_okM zt_hh zp_P zt_cl zt_tf zt_fd zt_nf zt_T zt_N zm_130 := zz_w_okM zw_130 zb_130 (zz_places goodWord zq_130 zg_130)
set_option maxRecDepth 100000 in
theorem zd_131_0 : ∀ r ∈ zl_131_0, decode zm_131.1.2.1 r.1 = .ok (r.2.1, r.2.2.1) := by decide +kernel
set_option maxRecDepth 100000 in
theorem zq_131_0 : (zl_131_0.flatMap (zz_wr zt_hh zp_P zt_cl zm_131.1.1.cls)).map some = ([1210, 1125, 1126, 1124, 1125, 1126, 1124, 1270, 54, 1268, 1125, 1126, 1124] : List Nat).map (fun i => lw_tbl[i]?) := by rfl
set_option maxRecDepth 100000 in
theorem zg_131_0 : (zl_131_0.flatMap (zz_wr zt_hh zp_P zt_cl zm_131.1.1.cls)).all goodWord = true := by decide +kernel
set_option maxRecDepth 100000 in
theorem zr_131_0 : (zl_131_0.flatMap (zz_wn zp_P zm_131.1.1.cls)).map some = ([1267] : List Nat).map (fun i => lw_tbl[i]?) := by rfl
set_option maxRecDepth 100000 in
theorem zs_131_0 : (zl_131_0.flatMap (zz_wn zp_P zm_131.1.1.cls)).all zz_isN = true := by decide +kernel
set_option maxRecDepth 100000 in
theorem zb_131_0 : zl_131_0.all (fun r => zz_wb zt_hh zp_P zt_cl zt_tf zt_fd zt_nf zm_131.1.1.cls zm_131.1.1.name r) = true := by decide +kernel
set_option maxRecDepth 100000 in
theorem zy_131_0 : zl_131_0.all (fun r => zz_tb zt_hh zp_P zm_131 r) = true := by decide +kernel
theorem zw_131 : zz_okW zt_hh zp_P zt_cl zt_tf zt_fd zt_nf zt_T zt_N zm_131 := List.forall_mem_cons.mpr ⟨(zz_w_okL zd_131_0 zb_131_0 (zz_places goodWord zq_131_0 zg_131_0) (zz_places zz_isN zr_131_0 zs_131_0) zy_131_0), (fun _ h => absurd h List.not_mem_nil)⟩
set_option maxRecDepth 100000 in
theorem zq_131 : [zz_cw zt_hh zm_131, Cond.initialized zm_131.1.1.cls].map some = ([1266, 221] : List Nat).map (fun i => lw_tbl[i]?) := by rfl
set_option maxRecDepth 100000 in
theorem zg_131 : [zz_cw zt_hh zm_131, Cond.initialized zm_131.1.1.cls].all goodWord = true := by decide +kernel
set_option maxRecDepth 100000 in
theorem zb_131 : (plainName zm_131.1.1.cls && (decide (zm_131.1.1.cls ≠ "java/lang/invoke/MethodHandle" ∧ zm_131.1.1.cls ≠ "java/lang/invoke/VarHandle") && decide (zm_131.1.2.2.1 ≤ 40))) = true := by decide +kernel
theorem zo_131 : zz_okM zt_hh zp_P zt_cl zt_tf zt_fd zt_nf zt_T zt_N zm_131 := zz_w_okM zw_131 zb_131 (zz_places goodWord zq_131 zg_131)
set_option maxRecDepth 100000 in
theorem zd_132_0 : ∀ r ∈ zl_132_0, decode zm_132.1.2.1 r.1 = .ok (r.2.1, r.2.2.1) := by decide +kernel
set_option maxRecDepth 100000 in
theorem zq_132_0 : (zl_132_0.flatMap (zz_wr zt_hh zp_P zt_cl zm_132.1.1.cls)).map some = ([1455, 85, 1453] : List Nat).map (fun i => lw_tbl[i]?) := by rfl
set_option maxRecDepth 100000 in
theorem zg_132_0 : (zl_132_0.flatMap (zz_wr zt_hh zp_P zt_cl zm_132.1.1.cls)).all goodWord = true := by decide +kernel
set_option maxRecDepth 100000 in
theorem zr_132_0 : (zl_132_0.flatMap (zz_wn zp_P zm_132.1.1.cls)).map some = ([] : List Nat).map (fun i => lw_tbl[i]?) := by rfl
set_option maxRecDepth 100000 in
theorem zs_132_0 : (zl_132_0.flatMap (zz_wn zp_P zm_132.1.1.cls)).all zz_isN = true := by decide +kernel
set_option maxRecDepth 100000 in
theorem zb_132_0 : zl_132_0.all (fun r => zz_wb zt_hh zp_P zt_cl zt_tf zt_fd zt_nf zm_132.1.1.cls zm_132.1.1.name r) = true := by decide +kernel
set_option maxRecDepth 100000 in
theorem zy_132_0 : zl_132_0.all (fun r => zz_tb zt_hh zp_P zm_132 r) = true := by decide +kernel
theorem zw_132 : zz_okW zt_hh zp_P zt_cl zt_tf zt_fd zt_nf zt_T zt_N zm_132 := List.forall_mem_cons.mpr ⟨(zz_w_okL zd_132_0 zb_132_0 (zz_places goodWord zq_132_0 zg_132_0) (zz_places zz_isN zr_132_0 zs_132_0) zy_132_0), (fun _ h => absurd h List.not_mem_nil)⟩
set_option maxRecDepth 100000 in
theorem zq_132 : [zz_cw zt_hh zm_132, Cond.initialized zm_132.1.1.cls].map some = ([1452, 221] : List Nat).map (fun i => lw_tbl[i]?) := by rfl
set_option maxRecDepth 100000 in
theorem zg_132 : [zz_cw zt_hh zm_132, Cond.initialized zm_132.1.1.cls].all goodWord = true := by decide +kernel
set_option maxRecDepth 100000 in
theorem zb_132 : (plainName zm_132.1.1.cls && (decide (zm_132.1.1.cls ≠ "java/lang/invoke/MethodHandle" ∧ zm_132.1.1.cls ≠ "java/lang/invoke/VarHandle") && decide (zm_132.1.2.2.1 ≤ 40))) = true := by decide +kernel
theorem zo_132 : zz_okM zt_hh zp_P zt_cl zt_tf zt_fd zt_nf zt_T zt_N zm_132 := zz_w_okM zw_132 zb_132 (zz_places goodWord zq_132 zg_132)
set_option maxRecDepth 100000 in
theorem zd_133_0 : ∀ r ∈ zl_133_0, decode zm_133.1.2.1 r.1 = .ok (r.2.1, r.2.2.1) := by decide +kernel
set_option maxRecDepth 100000 in
theorem zq_133_0 : (zl_133_0.flatMap (zz_wr zt_hh zp_P zt_cl zm_133.1.1.cls)).map some = ([1125, 1126, 1124, 1210, 1210, 1125, 1126, 1124, 1210] : List Nat).map (fun i => lw_tbl[i]?) := by rfl
set_option maxRecDepth 100000 in
theorem zg_133_0 : (zl_133_0.flatMap (zz_wr zt_hh zp_P zt_cl zm_133.1.1.cls)).all goodWord = true := by decide +kernel
set_option maxRecDepth 100000 in
theorem zr_133_0 : (zl_133_0.flatMap (zz_wn zp_P zm_133.1.1.cls)).map some = ([1267, 1267, 1267] : List Nat).map (fun i => lw_tbl[i]?) := by rfl
set_option maxRecDepth 100000 in
theorem zs_133_0 : (zl_133_0.flatMap (zz_wn zp_P zm_133.1.1.cls)).all zz_isN = true := by decide +kernel
set_option maxRecDepth 100000 in
theorem zb_133_0 : zl_133_0.all (fun r => zz_wb zt_hh zp_P zt_cl zt_tf zt_fd zt_nf zm_133.1.1.cls zm_133.1.1.name r) = true := by decide +kernel
set_option maxRecDepth 100000 in
theorem zd_133_1 : ∀ r ∈ zl_133_1, decode zm_133.1.2.1 r.1 = .ok (r.2.1, r.2.2.1) := by decide +kernel
set_option maxRecDepth 100000 in
theorem zq_133_1 : (zl_133_1.flatMap (zz_wr zt_hh zp_P zt_cl zm_133.1.1.cls)).map some = ([1223, 1224, 1363, 1223, 1224, 1363, 1455, 85, 1453] : List Nat).map (fun i => lw_tbl[i]?) := by rfl
set_option maxRecDepth 100000 in
theorem zg_133_1 : (zl_133_1.flatMap (zz_wr zt_hh zp_P zt_cl zm_133.1.1.cls)).all goodWord = true := by decide +kernel
set_option maxRecDepth 100000 in
theorem zr_133_1 : (zl_133_1.flatMap (zz_wn zp_P zm_133.1.1.cls)).map some = ([] : List Nat).map (fun i => lw_tbl[i]?) := by rfl
set_option maxRecDepth 100000 in
theorem zs_133_1 : (zl_133_1.flatMap (zz_wn zp_P zm_133.1.1.cls)).all zz_isN = true := by decide +kernel
set_option maxRecDepth 100000 in
theorem zb_133_1 : zl_133_1.all (fun r => zz_wb zt_hh zp_P zt_cl zt_tf zt_fd zt_nf zm_133.1.1.cls zm_133.1.1.name r) = true := by decide +kernel
set_option maxRecDepth 100000 in
theorem zy_133_0 : zl_133_0.all (fun r => zz_tb zt_hh zp_P zm_133 r) = true := by decide +kernel
set_option maxRecDepth 100000 in
theorem zy_133_1 : zl_133_1.all (fun r => zz_tb zt_hh zp_P zm_133 r) = true := by decide +kernel
theorem zw_133 : zz_okW zt_hh zp_P zt_cl zt_tf zt_fd zt_nf zt_T zt_N zm_133 := List.forall_mem_cons.mpr ⟨(zz_w_okL zd_133_0 zb_133_0 (zz_places goodWord zq_133_0 zg_133_0) (zz_places zz_isN zr_133_0 zs_133_0) zy_133_0), List.forall_mem_cons.mpr ⟨(zz_w_okL zd_133_1 zb_133_1 (zz_places goodWord zq_133_1 zg_133_1) (zz_places zz_isN zr_133_1 zs_133_1) zy_133_1), (fun _ h => absurd h List.not_mem_nil)⟩⟩
set_option maxRecDepth 100000 in
theorem zq_133 : [zz_cw zt_hh zm_133, Cond.initialized zm_133.1.1.cls].map some = ([1456, 221] : List Nat).map (fun i => lw_tbl[i]?) := by rfl
set_option maxRecDepth 100000 in
theorem zg_133 : [zz_cw zt_hh zm_133, Cond.initialized zm_133.1.1.cls].all goodWord = true := by decide +kernel
set_option maxRecDepth 100000 in
theorem zb_133 : (plainName zm_133.1.1.cls && (decide (zm_133.1.1.cls ≠ "java/lang/invoke/MethodHandle" ∧ zm_133.1.1.cls ≠ "java/lang/invoke/VarHandle") && decide (zm_133.1.2.2.1 ≤ 40))) = true := by decide +kernel
theorem zo_133 : zz_okM zt_hh zp_P zt_cl zt_tf zt_fd zt_nf zt_T zt_N zm_133 := zz_w_okM zw_133 zb_133 (zz_places goodWord zq_133 zg_133)
set_option maxRecDepth 100000 in
theorem zd_134_0 : ∀ r ∈ zl_134_0, decode zm_134.1.2.1 r.1 = .ok (r.2.1, r.2.2.1) := by decide +kernel
set_option maxRecDepth 100000 in
theorem zq_134_0 : (zl_134_0.flatMap (zz_wr zt_hh zp_P zt_cl zm_134.1.1.cls)).map some = ([391, 391, 390] : List Nat).map (fun i => lw_tbl[i]?) := by rfl
set_option maxRecDepth 100000 in
theorem zg_134_0 : (zl_134_0.flatMap (zz_wr zt_hh zp_P zt_cl zm_134.1.1.cls)).all goodWord = true := by decide +kernel
set_option maxRecDepth 100000 in
theorem zr_134_0 : (zl_134_0.flatMap (zz_wn zp_P zm_134.1.1.cls)).map some = ([] : List Nat).map (fun i => lw_tbl[i]?) := by rfl
set_option maxRecDepth 100000 in
theorem zs_134_0 : (zl_134_0.flatMap (zz_wn zp_P zm_134.1.1.cls)).all zz_isN = true := by decide +kernel
set_option maxRecDepth 100000 in
theorem zb_134_0 : zl_134_0.all (fun r => zz_wb zt_hh zp_P zt_cl zt_tf zt_fd zt_nf zm_134.1.1.cls zm_134.1.1.name r) = true := by decide +kernel
set_option maxRecDepth 100000 in
theorem zd_134_1 : ∀ r ∈ zl_134_1, decode zm_134.1.2.1 r.1 = .ok (r.2.1, r.2.2.1) := by decide +kernel
set_option maxRecDepth 100000 in
theorem zq_134_1 : (zl_134_1.flatMap (zz_wr zt_hh zp_P zt_cl zm_134.1.1.cls)).map some = ([390] : List Nat).map (fun i => lw_tbl[i]?) := by rfl
set_option maxRecDepth 100000 in
theorem zg_134_1 : (zl_134_1.flatMap (zz_wr zt_hh zp_P zt_cl zm_134.1.1.cls)).all goodWord = true := by decide +kernel
set_option maxRecDepth 100000 in
theorem zr_134_1 : (zl_134_1.flatMap (zz_wn zp_P zm_134.1.1.cls)).map some = ([] : List Nat).map (fun i => lw_tbl[i]?) := by rfl
set_option maxRecDepth 100000 in
theorem zs_134_1 : (zl_134_1.flatMap (zz_wn zp_P zm_134.1.1.cls)).all zz_isN = true := by decide +kernel
set_option maxRecDepth 100000 in
theorem zb_134_1 : zl_134_1.all (fun r => zz_wb zt_hh zp_P zt_cl zt_tf zt_fd zt_nf zm_134.1.1.cls zm_134.1.1.name r) = true := by decide +kernel
set_option maxRecDepth 100000 in
theorem zy_134_0 : zl_134_0.all (fun r => zz_tb zt_hh zp_P zm_134 r) = true := by decide +kernel
set_option maxRecDepth 100000 in
theorem zy_134_1 : zl_134_1.all (fun r => zz_tb zt_hh zp_P zm_134 r) = true := by decide +kernel
theorem zw_134 : zz_okW zt_hh zp_P zt_cl zt_tf zt_fd zt_nf zt_T zt_N zm_134 := List.forall_mem_cons.mpr ⟨(zz_w_okL zd_134_0 zb_134_0 (zz_places goodWord zq_134_0 zg_134_0) (zz_places zz_isN zr_134_0 zs_134_0) zy_134_0), List.forall_mem_cons.mpr ⟨(zz_w_okL zd_134_1 zb_134_1 (zz_places goodWord zq_134_1 zg_134_1) (zz_places zz_isN zr_134_1 zs_134_1) zy_134_1), (fun _ h => absurd h List.not_mem_nil)⟩⟩
set_option maxRecDepth 100000 in
theorem zq_134 : [zz_cw zt_hh zm_134, Cond.initialized zm_134.1.1.cls].map some = ([1123, 221] : List Nat).map (fun i => lw_tbl[i]?) := by rfl
set_option maxRecDepth 100000 in
theorem zg_134 : [zz_cw zt_hh zm_134, Cond.initialized zm_134.1.1.cls].all goodWord = true := by decide +kernel
set_option maxRecDepth 100000 in
theorem zb_134 : (plainName zm_134.1.1.cls && (decide (zm_134.1.1.cls ≠ "java/lang/invoke/MethodHandle" ∧ zm_134.1.1.cls ≠ "java/lang/invoke/VarHandle") && decide (zm_134.1.2.2.1 ≤ 40))) = true := by decide +kernel
theorem zo_134 : zz_okM zt_hh zp_P zt_cl zt_tf zt_fd zt_nf zt_T zt_N zm_134 := zz_w_okM zw_134 zb_134 (zz_places goodWord zq_134 zg_134)
set_option maxRecDepth 100000 in
theorem zd_135_0 : ∀ r ∈ zl_135_0, decode zm_135.1.2.1 r.1 = .ok (r.2.1, r.2.2.1) := by decide +kernel
set_option maxRecDepth 100000 in
theorem zq_135_0 : (zl_135_0.flatMap (zz_wr zt_hh zp_P zt_cl zm_135.1.1.cls)).map some = ([1132, 391, 390] : List Nat).map (fun i => lw_tbl[i]?) := by rfl
set_option maxRecDepth 100000 in
theorem zg_135_0 : (zl_135_0.flatMap (zz_wr zt_hh zp_P zt_cl zm_135.1.1.cls)).all goodWord = true := by decide +kernel
set_option maxRecDepth 100000 in
theorem zr_135_0 : (zl_135_0.flatMap (zz_wn zp_P zm_135.1.1.cls)).map some = ([] : List Nat).map (fun i => lw_tbl[i]?) := by rfl
set_option maxRecDepth 100000 in
theorem zs_135_0 : (zl_135_0.flatMap (zz_wn zp_P zm_135.1.1.cls)).all zz_isN = true := by decide +kernel
set_option maxRecDepth 100000 in
theorem zb_135_0 : zl_135_0.all (fun r => zz_wb zt_hh zp_P zt_cl zt_tf zt_fd zt_nf zm_135.1.1.cls zm_135.1.1.name r) = true := by decide +kernel
set_option maxRecDepth 100000 in
theorem zy_135_0 : zl_135_0.all (fun r => zz_tb zt_hh zp_P zm_135 r) = true := by decide +kernel
theorem zw_135 : zz_okW zt_hh zp_P zt_cl zt_tf zt_fd zt_nf zt_T zt_N zm_135 := List.forall_mem_cons.mpr ⟨(zz_w_okL zd_135_0 zb_135_0 (zz_places goodWord zq_135_0 zg_135_0) (zz_places zz_isN zr_135_0 zs_135_0) zy_135_0), (fun _ h => absurd h List.not_mem_nil)⟩
set_option maxRecDepth 100000 in
theorem zq_135 : [zz_cw zt_hh zm_135, Cond.initialized zm_135.1.1.cls].map some = ([1131, 221] : List Nat).map (fun i => lw_tbl[i]?) := by rfl
set_option maxRecDepth 100000 in
theorem zg_135 : [zz_cw zt_hh zm_135, Cond.initialized zm_135.1.1.cls].all goodWord = true := by decide +kernel
set_option maxRecDepth 100000 in
theorem zb_135 : (plainName zm_135.1.1.cls && (decide (zm_135.1.1.cls ≠ "java/lang/invoke/MethodHandle" ∧ zm_135.1.1.cls ≠ "java/lang/invoke/VarHandle") && decide (zm_135.1.2.2.1 ≤ 40))) = true := by decide +kernel
theorem zo_135 : zz_okM zt_hh zp_P zt_cl zt_tf zt_fd zt_nf zt_T zt_N zm_135 := zz_w_okM zw_135 zb_135 (zz_places goodWord zq_135 zg_135)
set_option maxRecDepth 100000 in
theorem zd_136_0 : ∀ r ∈ zl_136_0, decode zm_136.1.2.1 r.1 = .ok (r.2.1, r.2.2.1) := by decide +kernel
set_option maxRecDepth 100000 in
theorem zq_136_0 : (zl_136_0.flatMap (zz_wr zt_hh zp_P zt_cl zm_136.1.1.cls)).map some = ([391, 390] : List Nat).map (fun i => lw_tbl[i]?) := by rfl
set_option maxRecDepth 100000 in
theorem zg_136_0 : (zl_136_0.flatMap (zz_wr zt_hh zp_P zt_cl zm_136.1.1.cls)).all goodWord = true := by decide +kernel
set_option maxRecDepth 100000 in
theorem zr_136_0 : (zl_136_0.flatMap (zz_wn zp_P zm_136.1.1.cls)).map some = ([] : List Nat).map (fun i => lw_tbl[i]?) := by rfl
set_option maxRecDepth 100000 in
theorem zs_136_0 : (zl_136_0.flatMap (zz_wn zp_P zm_136.1.1.cls)).all zz_isN = true := by decide +kernel
set_option maxRecDepth 100000 in
theorem zb_136_0 : zl_136_0.all (fun r => zz_wb zt_hh zp_P zt_cl zt_tf zt_fd zt_nf zm_136.1.1.cls zm_136.1.1.name r) = true := by decide +kernel
set_option maxRecDepth 100000 in
theorem zy_136_0 : zl_136_0.all (fun r => zz_tb zt_hh zp_P zm_136 r) = true := by decide +kernel
theorem zw_136 : zz_okW zt_hh zp_P zt_cl zt_tf zt_fd zt_nf zt_T zt_N zm_136 := List.forall_mem_cons.mpr ⟨(zz_w_okL zd_136_0 zb_136_0 (zz_places goodWord zq_136_0 zg_136_0) (zz_places zz_isN zr_136_0 zs_136_0) zy_136_0), (fun _ h => absurd h List.not_mem_nil)⟩
set_option maxRecDepth 100000 in
theorem zq_136 : [zz_cw zt_hh zm_136, Cond.initialized zm_136.1.1.cls].map some = ([1271, 221] : List Nat).map (fun i => lw_tbl[i]?) := by rfl
set_option maxRecDepth 100000 in
theorem zg_136 : [zz_cw zt_hh zm_136, Cond.initialized zm_136.1.1.cls].all goodWord = true := by decide +kernel
set_option maxRecDepth 100000 in
theorem zb_136 : (plainName zm_136.1.1.cls && (decide (zm_136.1.1.cls ≠ "java/lang/invoke/MethodHandle" ∧ zm_136.1.1.cls ≠ "java/lang/invoke/VarHandle") && decide (zm_136.1.2.2.1 ≤ 40))) = true := by decide +kernel
theorem zo_136 : zz_okM zt_hh zp_P zt_cl zt_tf zt_fd zt_nf zt_T zt_N zm_136 := zz_w_okM zw_136 zb_136 (zz_places goodWord zq_136 zg_136)
set_option maxRecDepth 100000 in
theorem zd_137_0 : ∀ r ∈ zl_137_0, decode zm_137.1.2.1 r.1 = .ok (r.2.1, r.2.2.1) := by decide +kernel
set_option maxRecDepth 100000 in
theorem zq_137_0 : (zl_137_0.flatMap (zz_wr zt_hh zp_P zt_cl zm_137.1.1.cls)).map some = ([491, 492] : List Nat).map (fun i => lw_tbl[i]?) := by rfl
set_option maxRecDepth 100000 in
theorem zg_137_0 : (zl_137_0.flatMap (zz_wr zt_hh zp_P zt_cl zm_137.1.1.cls)).all goodWord = true := by decide +kernel
set_option maxRecDepth 100000 in
theorem zr_137_0 : (zl_137_0.flatMap (zz_wn zp_P zm_137.1.1.cls)).map some = ([] : List Nat).map (fun i => lw_tbl[i]?) := by rfl
set_option maxRecDepth 100000 in
theorem zs_137_0 : (zl_137_0.flatMap (zz_wn zp_P zm_137.1.1.cls)).all zz_isN = true := by decide +kernel
set_option maxRecDepth 100000 in
theorem zb_137_0 : zl_137_0.all (fun r => zz_wb zt_hh zp_P zt_cl zt_tf zt_fd zt_nf zm_137.1.1.cls zm_137.1.1.name r) = true := by decide +kernel
set_option maxRecDepth 100000 in
theorem zy_137_0 : zl_137_0.all (fun r => zz_tb zt_hh zp_P zm_137 r) = true := by decide +kernel
theorem zw_137 : zz_okW zt_hh zp_P zt_cl zt_tf zt_fd zt_nf zt_T zt_N zm_137 := List.forall_mem_cons.mpr ⟨(zz_w_okL zd_137_0 zb_137_0 (zz_places goodWord zq_137_0 zg_137_0) (zz_places zz_isN zr_137_0 zs_137_0) zy_137_0), (fun _ h => absurd h List.not_mem_nil)⟩
set_option maxRecDepth 100000 in
theorem zq_137 : [zz_cw zt_hh zm_137, Cond.initialized zm_137.1.1.cls].map some = ([1138, 224] : List Nat).map (fun i => lw_tbl[i]?) := by rfl
set_option maxRecDepth 100000 in
theorem zg_137 : [zz_cw zt_hh zm_137, Cond.initialized zm_137.1.1.cls].all goodWord = true := by decide +kernel
set_option maxRecDepth 100000 in
theorem zb_137 : (plainName zm_137.1.1.cls && (decide (zm_137.1.1.cls ≠ "java/lang/invoke/MethodHandle" ∧ zm_137.1.1.cls ≠ "java/lang/invoke/VarHandle") && decide (zm_137.1.2.2.1 ≤ 40))) = true := by decide +kernel
theorem zo_137 : zz_okM zt_hh zp_P zt_cl zt_tf zt_fd zt_nf zt_T zt_N zm_137 := zz_w_okM zw_137 zb_137 (zz_places goodWord zq_137 zg_137)
set_option maxRecDepth 100000 in
theorem zd_138_0 : ∀ r ∈ zl_138_0, decode zm_138.1.2.1 r.1 = .ok (r.2.1, r.2.2.1) := by decide +kernel
set_option maxRecDepth 100000 in
theorem zq_138_0 : (zl_138_0.flatMap (zz_wr zt_hh zp_P zt_cl zm_138.1.1.cls)).map some = ([492] : List Nat).map (fun i => lw_tbl[i]?) := by rfl
set_option maxRecDepth 100000 in
theorem zg_138_0 : (zl_138_0.flatMap (zz_wr zt_hh zp_P zt_cl zm_138.1.1.cls)).all goodWord = true := by decide +kernel
set_option maxRecDepth 100000 in
theorem zr_138_0 : (zl_138_0.flatMap (zz_wn zp_P zm_138.1.1.cls)).map some = ([] : List Nat).map (fun i => lw_tbl[i]?) := by rfl
set_option maxRecDepth 100000 in
theorem zs_138_0 : (zl_138_0.flatMap (zz_wn zp_P zm_138.1.1.cls)).all zz_isN = true := by decide +kernel
set_option maxRecDepth 100000 in
theorem zb_138_0 : zl_138_0.all (fun r => zz_wb zt_hh zp_P zt_cl zt_tf zt_fd zt_nf zm_138.1.1.cls zm_138.1.1.name r) = true := by decide +kernel
set_option maxRecDepth 100000 in
theorem zy_138_0 : zl_138_0.all (fun r => zz_tb zt_hh zp_P zm_138 r) = true := by decide +kernel
theorem zw_138 : zz_okW zt_hh zp_P zt_cl zt_tf zt_fd zt_nf zt_T zt_N zm_138 := List.forall_mem_cons.mpr ⟨(zz_w_okL zd_138_0 zb_138_0 (zz_places goodWord zq_138_0 zg_138_0) (zz_places zz_isN zr_138_0 zs_138_0) zy_138_0), (fun _ h => absurd h List.not_mem_nil)⟩
set_option maxRecDepth 100000 in
theorem zq_138 : [zz_cw zt_hh zm_138, Cond.initialized zm_138.1.1.cls].map some = ([1599, 224] : List Nat).map (fun i => lw_tbl[i]?) := by rfl
set_option maxRecDepth 100000 in
theorem zg_138 : [zz_cw zt_hh zm_138, Cond.initialized zm_138.1.1.cls].all goodWord = true := by decide +kernel
set_option maxRecDepth 100000 in
theorem zb_138 : (plainName zm_138.1.1.cls && (decide (zm_138.1.1.cls ≠ "java/lang/invoke/MethodHandle" ∧ zm_138.1.1.cls ≠ "java/lang/invoke/VarHandle") && decide (zm_138.1.2.2.1 ≤ 40))) = true := by decide +kernel
theorem zo_138 : zz_okM zt_hh zp_P zt_cl zt_tf zt_fd zt_nf zt_T zt_N zm_138 := zz_w_okM zw_138 zb_138 (zz_places goodWord zq_138 zg_138)
set_option maxRecDepth 100000 in
theorem zd_139_0 : ∀ r ∈ zl_139_0, decode zm_139.1.2.1 r.1 = .ok (r.2.1, r.2.2.1) := by decide +kernel
set_option maxRecDepth 100000 in
theorem zq_139_0 : (zl_139_0.flatMap (zz_wr zt_hh zp_P zt_cl zm_139.1.1.cls)).map some = ([491] : List Nat).map (fun i => lw_tbl[i]?) := by rfl
set_option maxRecDepth 100000 in
theorem zg_139_0 : (zl_139_0.flatMap (zz_wr zt_hh zp_P zt_cl zm_139.1.1.cls)).all goodWord = true := by decide +kernel
set_option maxRecDepth 100000 in
theorem zr_139_0 : (zl_139_0.flatMap (zz_wn zp_P zm_139.1.1.cls)).map some = ([] : List Nat).map (fun i => lw_tbl[i]?) := by rfl
set_option maxRecDepth 100000 in
theorem zs_139_0 : (zl_139_0.flatMap (zz_wn zp_P zm_139.1.1.cls)).all zz_isN = true := by decide +kernel
set_option maxRecDepth 100000 in
theorem zb_139_0 : zl_139_0.all (fun r => zz_wb zt_hh zp_P zt_cl zt_tf zt_fd zt_nf zm_139.1.1.cls zm_139.1.1.name r) = true := by decide +kernel
set_option maxRecDepth 100000 in
theorem zy_139_0 : zl_139_0.all (fun r => zz_tb zt_hh zp_P zm_139 r) = true := by decide +kernel
theorem zw_139 : zz_okW zt_hh zp_P zt_cl zt_tf zt_fd zt_nf zt_T zt_N zm_139 := List.forall_mem_cons.mpr ⟨(zz_w_okL zd_139_0 zb_139_0 (zz_places goodWord zq_139_0 zg_139_0) (zz_places zz_isN zr_139_0 zs_139_0) zy_139_0), (fun _ h => absurd h List.not_mem_nil)⟩
set_option maxRecDepth 100000 in
theorem zq_139 : [zz_cw zt_hh zm_139, Cond.initialized zm_139.1.1.cls].map some = ([1603, 224] : List Nat).map (fun i => lw_tbl[i]?) := by rfl
set_option maxRecDepth 100000 in
theorem zg_139 : [zz_cw zt_hh zm_139, Cond.initialized zm_139.1.1.cls].all goodWord = true := by decide +kernel
set_option maxRecDepth 100000 in
theorem zb_139 : (plainName zm_139.1.1.cls && (decide (zm_139.1.1.cls ≠ "java/lang/invoke/MethodHandle" ∧ zm_139.1.1.cls ≠ "java/lang/invoke/VarHandle") && decide (zm_139.1.2.2.1 ≤ 40))) = true := by decide +kernel
theorem zo_139 : zz_okM zt_hh zp_P zt_cl zt_tf zt_fd zt_nf zt_T zt_N zm_139 := zz_w_okM zw_139 zb_139 (zz_places goodWord zq_139 zg_139)
set_option maxRecDepth 100000 in
theorem zd_140_0 : ∀ r ∈ zl_140_0, decode zm_140.1.2.1 r.1 = .ok (r.2.1, r.2.2.1) := by decide +kernel
set_option maxRecDepth 100000 in
theorem zq_140_0 : (zl_140_0.flatMap (zz_wr zt_hh zp_P zt_cl zm_140.1.1.cls)).map some = ([1203, 46, 1201] : List Nat).map (fun i => lw_tbl[i]?) := by rfl
set_option maxRecDepth 100000 in
theorem zg_140_0 : (zl_140_0.flatMap (zz_wr zt_hh zp_P zt_cl zm_140.1.1.cls)).all goodWord = true := by decide +kernel
set_option maxRecDepth 100000 in
theorem zr_140_0 : (zl_140_0.flatMap (zz_wn zp_P zm_140.1.1.cls)).map some = ([] : List Nat).map (fun i => lw_tbl[i]?) := by rfl
set_option maxRecDepth 100000 in
theorem zs_140_0 : (zl_140_0.flatMap (zz_wn zp_P zm_140.1.1.cls)).all zz_isN = true := by decide +kernel
set_option maxRecDepth 100000 in
theorem zb_140_0 : zl_140_0.all (fun r => zz_wb zt_hh zp_P zt_cl zt_tf zt_fd zt_nf zm_140.1.1.cls zm_140.1.1.name r) = true := by decide +kernel
set_option maxRecDepth 100000 in
theorem zy_140_0 : zl_140_0.all (fun r => zz_tb zt_hh zp_P zm_140 r) = true := by decide +kernel
theorem zw_140 : zz_okW zt_hh zp_P zt_cl zt_tf zt_fd zt_nf zt_T zt_N zm_140 := List.forall_mem_cons.mpr ⟨(zz_w_okL zd_140_0 zb_140_0 (zz_places goodWord zq_140_0 zg_140_0) (zz_places zz_isN zr_140_0 zs_140_0) zy_140_0), (fun _ h => absurd h List.not_mem_nil)⟩
set_option maxRecDepth 100000 in
theorem zq_140 : [zz_cw zt_hh zm_140, Cond.initialized zm_140.1.1.cls].map some = ([1629, 224] : List Nat).map (fun i => lw_tbl[i]?) := by rfl
set_option maxRecDepth 100000 in
theorem zg_140 : [zz_cw zt_hh zm_140, Cond.initialized zm_140.1.1.cls].all goodWord = true := by decide +kernel
set_option maxRecDepth 100000 in
theorem zb_140 : (plainName zm_140.1.1.cls && (decide (zm_140.1.1.cls ≠ "java/lang/invoke/MethodHandle" ∧ zm_140.1.1.cls ≠ "java/lang/invoke/VarHandle") && decide (zm_140.1.2.2.1 ≤ 40))) = true := by decide +kernel
theorem zo_140 : zz_okM zt_hh zp_P zt_cl zt_tf zt_fd zt_nf zt_T zt_N zm_140 := zz_w_okM zw_140 zb_140 (zz_places goodWord zq_140 zg_140)
set_option maxRecDepth 100000 in
theorem zd_141_0 : ∀ r ∈ zl_141_0, decode zm_141.1.2.1 r.1 = .ok (r.2.1, r.2.2.1) := by decide +kernel
set_option maxRecDepth 100000 in
theorem zq_141_0 : (zl_141_0.flatMap (zz_wr zt_hh zp_P zt_cl zm_141.1.1.cls)).map some = ([502, 494, 497, 501, 503, 504, 1145, 41, 1143, 1172, 504, 502, 503, 1174, 1175, 1173, 502] : List Nat).map (fun i => lw_tbl[i]?) := by rfl
set_option maxRecDepth 100000 in
theorem zg_141_0 : (zl_141_0.flatMap (zz_wr zt_hh zp_P zt_cl zm_141.1.1.cls)).all goodWord = true := by decide +kernel
set_option maxRecDepth 100000 in
theorem zr_141_0 : (zl_141_0.flatMap (zz_wn zp_P zm_141.1.1.cls)).map some = ([] : List Nat).map (fun i => lw_tbl[i]?) := by rfl
set_option maxRecDepth 100000 in
theorem zs_141_0 : (zl_141_0.flatMap (zz_wn zp_P zm_141.1.1.cls)).all zz_isN = true := by decide +kernel
set_option maxRecDepth 100000 in
theorem zb_141_0 : zl_141_0.all (fun r => zz_wb zt_hh zp_P zt_cl zt_tf zt_fd zt_nf zm_141.1.1.cls zm_141.1.1.name r) = true := by decide +kernel
set_option maxRecDepth 100000 in
theorem zd_141_1 : ∀ r ∈ zl_141_1, decode zm_141.1.2.1 r.1 = .ok (r.2.1, r.2.2.1) := by decide +kernel
set_option maxRecDepth 100000 in
theorem zq_141_1 : (zl_141_1.flatMap (zz_wr zt_hh zp_P zt_cl zm_141.1.1.cls)).map some = ([503, 1178, 1179, 1177, 502, 503, 1182, 1183, 1181, 503, 503, 1187, 44, 1185, 1195, 45, 1193, 1509, 94, 1507] : List Nat).map (fun i => lw_tbl[i]?) := by rfl
set_option maxRecDepth 100000 in
theorem zg_141_1 : (zl_141_1.flatMap (zz_wr zt_hh zp_P zt_cl zm_141.1.1.cls)).all goodWord = true := by decide +kernel
set_option maxRecDepth 100000 in
theorem zr_141_1 : (zl_141_1.flatMap (zz_wn zp_P zm_141.1.1.cls)).map some = ([] : List Nat).map (fun i => lw_tbl[i]?) := by rfl
set_option maxRecDepth 100000 in
theorem zs_141_1 : (zl_141_1.flatMap (zz_wn zp_P zm_141.1.1.cls)).all zz_isN = true := by decide +kernel
set_option maxRecDepth 100000 in
theorem zb_141_1 : zl_141_1.all (fun r => zz_wb zt_hh zp_P zt_cl zt_tf zt_fd zt_nf zm_141.1.1.cls zm_141.1.1.name r) = true := by decide +kernel
set_option maxRecDepth 100000 in
theorem zd_141_2 : ∀ r ∈ zl_141_2, decode zm_141.1.2.1 r.1 = .ok (r.2.1, r.2.2.1) := by decide +kernel
set_option maxRecDepth 100000 in
theorem zq_141_2 : (zl_141_2.flatMap (zz_wr zt_hh zp_P zt_cl zm_141.1.1.cls)).map some = ([504, 488, 1152, 1153, 1151] : List Nat).map (fun i => lw_tbl[i]?) := by rfl
set_option maxRecDepth 100000 in
theorem zg_141_2 : (zl_141_2.flatMap (zz_wr zt_hh zp_P zt_cl zm_141.1.1.cls)).all goodWord = true := by decide +kernel
set_option maxRecDepth 100000 in
theorem zr_141_2 : (zl_141_2.flatMap (zz_wn zp_P zm_141.1.1.cls)).map some = ([] : List Nat).map (fun i => lw_tbl[i]?) := by rfl
set_option maxRecDepth 100000 in
theorem zs_141_2 : (zl_141_2.flatMap (zz_wn zp_P zm_141.1.1.cls)).all zz_isN = true := by decide +kernel
set_option maxRecDepth 100000 in
theorem zb_141_2 : zl_141_2.all (fun r => zz_wb zt_hh zp_P zt_cl zt_tf zt_fd zt_nf zm_141.1.1.cls zm_141.1.1.name r) = true := by decide +kernel
set_option maxRecDepth 100000 in
theorem zy_141_0 : zl_141_0.all (fun r => zz_tb zt_hh zp_P zm_141 r) = true := by decide +kernel
set_option maxRecDepth 100000 in
theorem zy_141_1 : zl_141_1.all (fun r => zz_tb zt_hh zp_P zm_141 r) = true := by decide +kernel
set_option maxRecDepth 100000 in
theorem zy_141_2 : zl_141_2.all (fun r => zz_tb zt_hh zp_P zm_141 r) = true := by decide +kernel
theorem zw_141 : zz_okW zt_hh zp_P zt_cl zt_tf zt_fd zt_nf zt_T zt_N zm_141 := List.forall_mem_cons.mpr ⟨(zz_w_okL zd_141_0 zb_141_0 (zz_places goodWord zq_141_0 zg_141_0) (zz_places zz_isN zr_141_0 zs_141_0) zy_141_0), List.forall_mem_cons.mpr ⟨(zz_w_okL zd_141_1 zb_141_1 (zz_places goodWord zq_141_1 zg_141_1) (zz_places zz_isN zr_141_1 zs_141_1) zy_141_1), List.forall_mem_cons.mpr ⟨(zz_w_okL zd_141_2 zb_141_2 (zz_places goodWord zq_141_2 zg_141_2) (zz_places zz_isN zr_141_2 zs_141_2) zy_141_2), (fun _ h => absurd h List.not_mem_nil)⟩⟩⟩
set_option maxRecDepth 100000 in
theorem zq_141 : [zz_cw zt_hh zm_141, Cond.initialized zm_141.1.1.cls].map some = ([1142, 224] : List Nat).map (fun i => lw_tbl[i]?) := by rfl
set_option maxRecDepth 100000 in
theorem zg_141 : [zz_cw zt_hh zm_141, Cond.initialized zm_141.1.1.cls].all goodWord = true := by decide +kernel
set_option maxRecDepth 100000 in
theorem zb_141 : (plainName zm_141.1.1.cls && (decide (zm_141.1.1.cls ≠ "java/lang/invoke/MethodHandle" ∧ zm_141.1.1.cls ≠ "java/lang/invoke/VarHandle") && decide (zm_141.1.2.2.1 ≤ 40))) = true := by decide +kernel
theorem zo_141 : zz_okM zt_hh zp_P zt_cl zt_tf zt_fd zt_nf zt_T zt_N zm_141 := zz_w_okM zw_141 zb_141 (zz_places goodWord zq_141 zg_141)
set_option maxRecDepth 100000 in
theorem zd_142_0 : ∀ r ∈ zl_142_0, decode zm_142.1.2.1 r.1 = .ok (r.2.1, r.2.2.1) := by decide +kernel
set_option maxRecDepth 100000 in
theorem zq_142_0 : (zl_142_0.flatMap (zz_wr zt_hh zp_P zt_cl zm_142.1.1.cls)).map some = ([1088, 1165, 43, 1163, 1513, 95, 1511, 1522, 97, 1520, 1493, 90, 1491, 503, 1526, 98, 1524, 1530, 99, 1528, 1534, 100, 1532] : List Nat).map (fun i => lw_tbl[i]?) := by rfl
set_option maxRecDepth 100000 in
theorem zg_142_0 : (zl_142_0.flatMap (zz_wr zt_hh zp_P zt_cl zm_142.1.1.cls)).all goodWord = true := by decide +kernel
set_option maxRecDepth 100000 in
theorem zr_142_0 : (zl_142_0.flatMap (zz_wn zp_P zm_142.1.1.cls)).map some = ([1162] : List Nat).map (fun i => lw_tbl[i]?) := by rfl
set_option maxRecDepth 100000 in
theorem zs_142_0 : (zl_142_0.flatMap (zz_wn zp_P zm_142.1.1.cls)).all zz_isN = true := by decide +kernel
set_option maxRecDepth 100000 in
theorem zb_142_0 : zl_142_0.all (fun r => zz_wb zt_hh zp_P zt_cl zt_tf zt_fd zt_nf zm_142.1.1.cls zm_142.1.1.name r) = true := by decide +kernel
set_option maxRecDepth 100000 in
theorem zd_142_1 : ∀ r ∈ zl_142_1, decode zm_142.1.2.1 r.1 = .ok (r.2.1, r.2.2.1) := by decide +kernel
set_option maxRecDepth 100000 in
theorem zq_142_1 : (zl_142_1.flatMap (zz_wr zt_hh zp_P zt_cl zm_142.1.1.cls)).map some = ([487, 486, 1493, 90, 1491, 1537, 1538, 1536, 487, 1551, 1552, 1561, 1564, 103, 1562, 1568, 104, 1566, 1572, 105, 1570, 501, 1155, 701, 228, 702, 501, 503, 1577, 106, 1575] : List Nat).map (fun i => lw_tbl[i]?) := by rfl
set_option maxRecDepth 100000 in
theorem zg_142_1 : (zl_142_1.flatMap (zz_wr zt_hh zp_P zt_cl zm_142.1.1.cls)).all goodWord = true := by decide +kernel
set_option maxRecDepth 100000 in
theorem zr_142_1 : (zl_142_1.flatMap (zz_wn zp_P zm_142.1.1.cls)).map some = ([] : List Nat).map (fun i => lw_tbl[i]?) := by rfl
set_option maxRecDepth 100000 in
theorem zs_142_1 : (zl_142_1.flatMap (zz_wn zp_P zm_142.1.1.cls)).all zz_isN = true := by decide +kernel
set_option maxRecDepth 100000 in
theorem zb_142_1 : zl_142_1.all (fun r => zz_wb zt_hh zp_P zt_cl zt_tf zt_fd zt_nf zm_142.1.1.cls zm_142.1.1.name r) = true := by decide +kernel
set_option maxRecDepth 100000 in
theorem zd_142_2 : ∀ r ∈ zl_142_2, decode zm_142.1.2.1 r.1 = .ok (r.2.1, r.2.2.1) := by decide +kernel
set_option maxRecDepth 100000 in
theorem zq_142_2 : (zl_142_2.flatMap (zz_wr zt_hh zp_P zt_cl zm_142.1.1.cls)).map some = ([502, 1039, 1040, 1161, 1145, 41, 1143] : List Nat).map (fun i => lw_tbl[i]?) := by rfl
set_option maxRecDepth 100000 in
theorem zg_142_2 : (zl_142_2.flatMap (zz_wr zt_hh zp_P zt_cl zm_142.1.1.cls)).all goodWord = true := by decide +kernel
set_option maxRecDepth 100000 in
theorem zr_142_2 : (zl_142_2.flatMap (zz_wn zp_P zm_142.1.1.cls)).map some = ([] : List Nat).map (fun i => lw_tbl[i]?) := by rfl
set_option maxRecDepth 100000 in
theorem zs_142_2 : (zl_142_2.flatMap (zz_wn zp_P zm_142.1.1.cls)).all zz_isN = true := by decide +kernel
set_option maxRecDepth 100000 in
theorem zb_142_2 : zl_142_2.all (fun r => zz_wb zt_hh zp_P zt_cl zt_tf zt_fd zt_nf zm_142.1.1.cls zm_142.1.1.name r) = true := by decide +kernel
set_option maxRecDepth 100000 in
theorem zy_142_0 : zl_142_0.all (fun r => zz_tb zt_hh zp_P zm_142 r) = true := by decide +kernel
set_option maxRecDepth 100000 in
theorem zy_142_1 : zl_142_1.all (fun r => zz_tb zt_hh zp_P zm_142 r) = true := by decide +kernel
set_option maxRecDepth 100000 in
theorem zy_142_2 : zl_142_2.all (fun r => zz_tb zt_hh zp_P zm_142 r) = true := by decide +kernel
theorem zw_142 : zz_okW zt_hh zp_P zt_cl zt_tf zt_fd zt_nf zt_T zt_N zm_142 := List.forall_mem_cons.mpr ⟨(zz_w_okL zd_142_0 zb_142_0 (zz_places goodWord zq_142_0 zg_142_0) (zz_places zz_isN zr_142_0 zs_142_0) zy_142_0), List.forall_mem_cons.mpr ⟨(zz_w_okL zd_142_1 zb_142_1 (zz_places goodWord zq_142_1 zg_142_1) (zz_places zz_isN zr_142_1 zs_142_1) zy_142_1), List.forall_mem_cons.mpr ⟨(zz_w_okL zd_142_2 zb_142_2 (zz_places goodWord zq_142_2 zg_142_2) (zz_places zz_isN zr_142_2 zs_142_2) zy_142_2), (fun _ h => absurd h List.not_mem_nil)⟩⟩⟩
set_option maxRecDepth 100000 in
theorem zq_142 : [zz_cw zt_hh zm_142, Cond.initialized zm_142.1.1.cls].map some = ([1510, 224] : List Nat).map (fun i => lw_tbl[i]?) := by rfl
set_option maxRecDepth 100000 in
theorem zg_142 : [zz_cw zt_hh zm_142, Cond.initialized zm_142.1.1.cls].all goodWord = true := by decide +kernel
set_option maxRecDepth 100000 in
theorem zb_142 : (plainName zm_142.1.1.cls && (decide (zm_142.1.1.cls ≠ "java/lang/invoke/MethodHandle" ∧ zm_142.1.1.cls ≠ "java/lang/invoke/VarHandle") && decide (zm_142.1.2.2.1 ≤ 40))) = true := by decide +kernel
theorem zo_142 : zz_okM zt_hh zp_P zt_cl zt_tf zt_fd zt_nf zt_T zt_N zm_142 := zz_w_okM zw_142 zb_142 (zz_places goodWord zq_142 zg_142)
set_option maxRecDepth 100000 in
theorem zd_143_0 : ∀ r ∈ zl_143_0, decode zm_143.1.2.1 r.1 = .ok (r.2.1, r.2.2.1) := by decide +kernel
set_option maxRecDepth 100000 in
theorem zq_143_0 : (zl_143_0.flatMap (zz_wr zt_hh zp_P zt_cl zm_143.1.1.cls)).map some = ([486, 1198, 1199, 1197, 1203, 46, 1201, 1203, 46, 1201, 489, 1206, 1207, 1205, 1259, 53, 1257, 489, 1277, 1278, 1276, 1259, 53, 1257, 490, 792, 1280] : List Nat).map (fun i => lw_tbl[i]?) := by rfl
set_option maxRecDepth 100000 in
theorem zg_143_0 : (zl_143_0.flatMap (zz_wr zt_hh zp_P zt_cl zm_143.1.1.cls)).all goodWord = true := by decide +kernel
set_option maxRecDepth 100000 in
theorem zr_143_0 : (zl_143_0.flatMap (zz_wn zp_P zm_143.1.1.cls)).map some = ([] : List Nat).map (fun i => lw_tbl[i]?) := by rfl
set_option maxRecDepth 100000 in
theorem zs_143_0 : (zl_143_0.flatMap (zz_wn zp_P zm_143.1.1.cls)).all zz_isN = true := by decide +kernel
set_option maxRecDepth 100000 in
theorem zb_143_0 : zl_143_0.all (fun r => zz_wb zt_hh zp_P zt_cl zt_tf zt_fd zt_nf zm_143.1.1.cls zm_143.1.1.name r) = true := by decide +kernel
set_option maxRecDepth 100000 in
theorem zd_143_1 : ∀ r ∈ zl_143_1, decode zm_143.1.2.1 r.1 = .ok (r.2.1, r.2.2.1) := by decide +kernel
set_option maxRecDepth 100000 in
theorem zq_143_1 : (zl_143_1.flatMap (zz_wr zt_hh zp_P zt_cl zm_143.1.1.cls)).map some = ([1282, 1283, 1281, 1259, 53, 1257, 490, 792, 1280, 1381, 1382, 1380, 1259, 53, 1257, 1459, 86, 1457, 486, 1463, 1464, 1462, 1259, 53, 1257, 1459, 86, 1457, 486] : List Nat).map (fun i => lw_tbl[i]?) := by rfl
set_option maxRecDepth 100000 in
theorem zg_143_1 : (zl_143_1.flatMap (zz_wr zt_hh zp_P zt_cl zm_143.1.1.cls)).all goodWord = true := by decide +kernel
set_option maxRecDepth 100000 in
theorem zr_143_1 : (zl_143_1.flatMap (zz_wn zp_P zm_143.1.1.cls)).map some = ([] : List Nat).map (fun i => lw_tbl[i]?) := by rfl
set_option maxRecDepth 100000 in
theorem zs_143_1 : (zl_143_1.flatMap (zz_wn zp_P zm_143.1.1.cls)).all zz_isN = true := by decide +kernel
set_option maxRecDepth 100000 in
theorem zb_143_1 : zl_143_1.all (fun r => zz_wb zt_hh zp_P zt_cl zt_tf zt_fd zt_nf zm_143.1.1.cls zm_143.1.1.name r) = true := by decide +kernel
set_option maxRecDepth 100000 in
theorem zd_143_2 : ∀ r ∈ zl_143_2, decode zm_143.1.2.1 r.1 = .ok (r.2.1, r.2.2.1) := by decide +kernel
set_option maxRecDepth 100000 in
theorem zq_143_2 : (zl_143_2.flatMap (zz_wr zt_hh zp_P zt_cl zm_143.1.1.cls)).map some = ([1113, 1114, 1467, 1259, 53, 1257, 489, 1203, 46, 1201, 1469, 1470, 1468, 1259, 53, 1257, 1475, 87, 1473, 1484, 88, 1482, 1488, 89, 1486, 1497, 91, 1495, 1501, 92, 1499] : List Nat).map (fun i => lw_tbl[i]?) := by rfl
set_option maxRecDepth 100000 in
theorem zg_143_2 : (zl_143_2.flatMap (zz_wr zt_hh zp_P zt_cl zm_143.1.1.cls)).all goodWord = true := by decide +kernel
set_option maxRecDepth 100000 in
theorem zr_143_2 : (zl_143_2.flatMap (zz_wn zp_P zm_143.1.1.cls)).map some = ([] : List Nat).map (fun i => lw_tbl[i]?) := by rfl
set_option maxRecDepth 100000 in
theorem zs_143_2 : (zl_143_2.flatMap (zz_wn zp_P zm_143.1.1.cls)).all zz_isN = true := by decide +kernel
set_option maxRecDepth 100000 in
theorem zb_143_2 : zl_143_2.all (fun r => zz_wb zt_hh zp_P zt_cl zt_tf zt_fd zt_nf zm_143.1.1.cls zm_143.1.1.name r) = true := by decide +kernel
set_option maxRecDepth 100000 in
theorem zd_143_3 : ∀ r ∈ zl_143_3, decode zm_143.1.2.1 r.1 = .ok (r.2.1, r.2.2.1) := by decide +kernel
set_option maxRecDepth 100000 in
theorem zq_143_3 : (zl_143_3.flatMap (zz_wr zt_hh zp_P zt_cl zm_143.1.1.cls)).map some = ([1505, 93, 1503] : List Nat).map (fun i => lw_tbl[i]?) := by rfl
set_option maxRecDepth 100000 in
theorem zg_143_3 : (zl_143_3.flatMap (zz_wr zt_hh zp_P zt_cl zm_143.1.1.cls)).all goodWord = true := by decide +kernel
set_option maxRecDepth 100000 in
theorem zr_143_3 : (zl_143_3.flatMap (zz_wn zp_P zm_143.1.1.cls)).map some = ([] : List Nat).map (fun i => lw_tbl[i]?) := by rfl
set_option maxRecDepth 100000 in
theorem zs_143_3 : (zl_143_3.flatMap (zz_wn zp_P zm_143.1.1.cls)).all zz_isN = true := by decide +kernel
set_option maxRecDepth 100000 in
theorem zb_143_3 : zl_143_3.all (fun r => zz_wb zt_hh zp_P zt_cl zt_tf zt_fd zt_nf zm_143.1.1.cls zm_143.1.1.name r) = true := by decide +kernel
set_option maxRecDepth 100000 in
theorem zy_143_0 : zl_143_0.all (fun r => zz_tb zt_hh zp_P zm_143 r) = true := by decide +kernel
set_option maxRecDepth 100000 in
theorem zy_143_1 : zl_143_1.all (fun r => zz_tb zt_hh zp_P zm_143 r) = true := by decide +kernel
set_option maxRecDepth 100000 in
theorem zy_143_2 : zl_143_2.all (fun r => zz_tb zt_hh zp_P zm_143 r) = true := by decide +kernel
set_option maxRecDepth 100000 in
theorem zy_143_3 : zl_143_3.all (fun r => zz_tb zt_hh zp_P zm_143 r) = true := by decide +kernel
theorem zw_143 : zz_okW zt_hh zp_P zt_cl zt_tf zt_fd zt_nf zt_T zt_N zm_143 := List.forall_mem_cons.mpr ⟨(zz_w_okL zd_143_0 zb_143_0 (zz_places goodWord zq_143_0 zg_143_0) (zz_places zz_isN zr_143_0 zs_143_0) zy_143_0), List.forall_mem_cons.mpr ⟨(zz_w_okL zd_143_1 zb_143_1 (zz_places goodWord zq_143_1 zg_143_1) (zz_places zz_isN zr_143_1 zs_143_1) zy_143_1), List.forall_mem_cons.mpr ⟨(zz_w_okL zd_143_2 zb_143_2 (zz_places goodWord zq_143_2 zg_143_2) (zz_places zz_isN zr_143_2 zs_143_2) zy_143_2), List.forall_mem_cons.mpr ⟨(zz_w_okL zd_143_3 zb_143_3 (zz_places goodWord zq_143_3 zg_143_3) (zz_places zz_isN zr_143_3 zs_143_3) zy_143_3), (fun _ h => absurd h List.not_mem_nil)⟩⟩⟩⟩
set_option maxRecDepth 100000 in
theorem zq_143 : [zz_cw zt_hh zm_143, Cond.initialized zm_143.1.1.cls].map some = ([1196, 224] : List Nat).map (fun i => lw_tbl[i]?) := by rfl
set_option maxRecDepth 100000 in
theorem zg_143 : [zz_cw zt_hh zm_143, Cond.initialized zm_143.1.1.cls].all goodWord = true := by decide +kernel
set_option maxRecDepth 100000 in
theorem zb_143 : (plainName zm_143.1.1.cls && (decide (zm_143.1.1.cls ≠ "java/lang/invoke/MethodHandle" ∧ zm_143.1.1.cls ≠ "java/lang/invoke/VarHandle") && decide (zm_143.1.2.2.1 ≤ 40))) = true := by decide +kernel
theorem zo_143 : zz_okM zt_hh zp_P zt_cl zt_tf zt_fd zt_nf zt_T zt_N zm_143 := zz_w_okM zw_143 zb_143 (zz_places goodWord zq_143 zg_143)
set_option maxRecDepth 100000 in
theorem zd_144_0 : ∀ r ∈ zl_144_0, decode zm_144.1.2.1 r.1 = .ok (r.2.1, r.2.2.1) := by decide +kernel
set_option maxRecDepth 100000 in
theorem zq_144_0 : (zl_144_0.flatMap (zz_wr zt_hh zp_P zt_cl zm_144.1.1.cls)).map some = ([1210, 1228, 1149, 42, 1147, 488, 486, 1264, 1265, 1263, 1273, 1274, 1272, 1149, 42, 1147, 494, 1155, 701, 228, 702, 494, 1165, 43, 1163] : List Nat).map (fun i => lw_tbl[i]?) := by rfl
set_option maxRecDepth 100000 in
theorem zg_144_0 : (zl_144_0.flatMap (zz_wr zt_hh zp_P zt_cl zm_144.1.1.cls)).all goodWord = true := by decide +kernel
set_option maxRecDepth 100000 in
theorem zr_144_0 : (zl_144_0.flatMap (zz_wn zp_P zm_144.1.1.cls)).map some = ([1261, 1262] : List Nat).map (fun i => lw_tbl[i]?) := by rfl
set_option maxRecDepth 100000 in
theorem zs_144_0 : (zl_144_0.flatMap (zz_wn zp_P zm_144.1.1.cls)).all zz_isN = true := by decide +kernel
set_option maxRecDepth 100000 in
theorem zb_144_0 : zl_144_0.all (fun r => zz_wb zt_hh zp_P zt_cl zt_tf zt_fd zt_nf zm_144.1.1.cls zm_144.1.1.name r) = true := by decide +kernel
set_option maxRecDepth 100000 in
theorem zy_144_0 : zl_144_0.all (fun r => zz_tb zt_hh zp_P zm_144 r) = true := by decide +kernel
theorem zw_144 : zz_okW zt_hh zp_P zt_cl zt_tf zt_fd zt_nf zt_T zt_N zm_144 := List.forall_mem_cons.mpr ⟨(zz_w_okL zd_144_0 zb_144_0 (zz_places goodWord zq_144_0 zg_144_0) (zz_places zz_isN zr_144_0 zs_144_0) zy_144_0), (fun _ h => absurd h List.not_mem_nil)⟩
set_option maxRecDepth 100000 in
theorem zq_144 : [zz_cw zt_hh zm_144, Cond.initialized zm_144.1.1.cls].map some = ([1260, 224] : List Nat).map (fun i => lw_tbl[i]?) := by rfl
set_option maxRecDepth 100000 in
theorem zg_144 : [zz_cw zt_hh zm_144, Cond.initialized zm_144.1.1.cls].all goodWord = true := by decide +kernel
set_option maxRecDepth 100000 in
theorem zb_144 : (plainName zm_144.1.1.cls && (decide (zm_144.1.1.cls ≠ "java/lang/invoke/MethodHandle" ∧ zm_144.1.1.cls ≠ "java/lang/invoke/VarHandle") && decide (zm_144.1.2.2.1 ≤ 40))) = true := by decide +kernel
theorem zo_144 : zz_okM zt_hh zp_P zt_cl zt_tf zt_fd zt_nf zt_T zt_N zm_144 := zz_w_okM zw_144 zb_144 (zz_places goodWord zq_144 zg_144)
set_option maxRecDepth 100000 in
theorem zd_145_0 : ∀ r ∈ zl_145_0, decode zm_145.1.2.1 r.1 = .ok (r.2.1, r.2.2.1) := by decide +kernel
set_option maxRecDepth 100000 in
theorem zq_145_0 : (zl_145_0.flatMap (zz_wr zt_hh zp_P zt_cl zm_145.1.1.cls)).map some = ([486, 1203, 46, 1201, 1108, 1109, 1461] : List Nat).map (fun i => lw_tbl[i]?) := by rfl
set_option maxRecDepth 100000 in
theorem zg_145_0 : (zl_145_0.flatMap (zz_wr zt_hh zp_P zt_cl zm_145.1.1.cls)).all goodWord = true := by decide +kernel
set_option maxRecDepth 100000 in
theorem zr_145_0 : (zl_145_0.flatMap (zz_wn zp_P zm_145.1.1.cls)).map some = ([] : List Nat).map (fun i => lw_tbl[i]?) := by rfl
set_option maxRecDepth 100000 in
theorem zs_145_0 : (zl_145_0.flatMap (zz_wn zp_P zm_145.1.1.cls)).all zz_isN = true := by decide +kernel
set_option maxRecDepth 100000 in
theorem zb_145_0 : zl_145_0.all (fun r => zz_wb zt_hh zp_P zt_cl zt_tf zt_fd zt_nf zm_145.1.1.cls zm_145.1.1.name r) = true := by decide +kernel
set_option maxRecDepth 100000 in
theorem zy_145_0 : zl_145_0.all (fun r => zz_tb zt_hh zp_P zm_145 r) = true := by decide +kernel
theorem zw_145 : zz_okW zt_hh zp_P zt_cl zt_tf zt_fd zt_nf zt_T zt_N zm_145 := List.forall_mem_cons.mpr ⟨(zz_w_okL zd_145_0 zb_145_0 (zz_places goodWord zq_145_0 zg_145_0) (zz_places zz_isN zr_145_0 zs_145_0) zy_145_0), (fun _ h => absurd h List.not_mem_nil)⟩
set_option maxRecDepth 100000 in
theorem zq_145 : [zz_cw zt_hh zm_145, Cond.initialized zm_145.1.1.cls].map some = ([1460, 224] : List Nat).map (fun i => lw_tbl[i]?) := by rfl
set_option maxRecDepth 100000 in
theorem zg_145 : [zz_cw zt_hh zm_145, Cond.initialized zm_145.1.1.cls].all goodWord = true := by decide +kernel
set_option maxRecDepth 100000 in
theorem zb_145 : (plainName zm_145.1.1.cls && (decide (zm_145.1.1.cls ≠ "java/lang/invoke/MethodHandle" ∧ zm_145.1.1.cls ≠ "java/lang/invoke/VarHandle") && decide (zm_145.1.2.2.1 ≤ 40))) = true := by decide +kernel
theorem zo_145 : zz_okM zt_hh zp_P zt_cl zt_tf zt_fd zt_nf zt_T zt_N zm_145 := zz_w_okM zw_145 zb_145 (zz_places goodWord zq_145 zg_145)
set_option maxRecDepth 100000 in
theorem zd_146_0 : ∀ r ∈ zl_146_0, decode zm_146.1.2.1 r.1 = .ok (r.2.1, r.2.2.1) := by decide +kernel
set_option maxRecDepth 100000 in
theorem zq_146_0 : (zl_146_0.flatMap (zz_wr zt_hh zp_P zt_cl zm_146.1.1.cls)).map some = ([488, 1190, 1191, 1189, 1149, 42, 1147] : List Nat).map (fun i => lw_tbl[i]?) := by rfl
set_option maxRecDepth 100000 in
theorem zg_146_0 : (zl_146_0.flatMap (zz_wr zt_hh zp_P zt_cl zm_146.1.1.cls)).all goodWord = true := by decide +kernel
set_option maxRecDepth 100000 in
theorem zr_146_0 : (zl_146_0.flatMap (zz_wn zp_P zm_146.1.1.cls)).map some = ([] : List Nat).map (fun i => lw_tbl[i]?) := by rfl
set_option maxRecDepth 100000 in
theorem zs_146_0 : (zl_146_0.flatMap (zz_wn zp_P zm_146.1.1.cls)).all zz_isN = true := by decide +kernel
set_option maxRecDepth 100000 in
theorem zb_146_0 : zl_146_0.all (fun r => zz_wb zt_hh zp_P zt_cl zt_tf zt_fd zt_nf zm_146.1.1.cls zm_146.1.1.name r) = true := by decide +kernel
set_option maxRecDepth 100000 in
theorem zy_146_0 : zl_146_0.all (fun r => zz_tb zt_hh zp_P zm_146 r) = true := by decide +kernel
theorem zw_146 : zz_okW zt_hh zp_P zt_cl zt_tf zt_fd zt_nf zt_T zt_N zm_146 := List.forall_mem_cons.mpr ⟨(zz_w_okL zd_146_0 zb_146_0 (zz_places goodWord zq_146_0 zg_146_0) (zz_places zz_isN zr_146_0 zs_146_0) zy_146_0), (fun _ h => absurd h List.not_mem_nil)⟩
set_option maxRecDepth 100000 in
theorem zq_146 : [zz_cw zt_hh zm_146, Cond.initialized zm_146.1.1.cls].map some = ([1188, 224] : List Nat).map (fun i => lw_tbl[i]?) := by rfl
set_option maxRecDepth 100000 in
theorem zg_146 : [zz_cw zt_hh zm_146, Cond.initialized zm_146.1.1.cls].all goodWord = true := by decide +kernel
set_option maxRecDepth 100000 in
theorem zb_146 : (plainName zm_146.1.1.cls && (decide (zm_146.1.1.cls ≠ "java/lang/invoke/MethodHandle" ∧ zm_146.1.1.cls ≠ "java/lang/invoke/VarHandle") && decide (zm_146.1.2.2.1 ≤ 40))) = true := by decide +kernel
theorem zo_146 : zz_okM zt_hh zp_P zt_cl zt_tf zt_fd zt_nf zt_T zt_N zm_146 := zz_w_okM zw_146 zb_146 (zz_places goodWord zq_146 zg_146)
set_option maxRecDepth 100000 in
theorem zd_147_0 : ∀ r ∈ zl_147_0, decode zm_147.1.2.1 r.1 = .ok (r.2.1, r.2.2.1) := by decide +kernel
set_option maxRecDepth 100000 in
theorem zq_147_0 : (zl_147_0.flatMap (zz_wr zt_hh zp_P zt_cl zm_147.1.1.cls)).map some = ([1088, 1065, 491, 1518, 96, 1516, 494, 493, 1210] : List Nat).map (fun i => lw_tbl[i]?) := by rfl
set_option maxRecDepth 100000 in
theorem zg_147_0 : (zl_147_0.flatMap (zz_wr zt_hh zp_P zt_cl zm_147.1.1.cls)).all goodWord = true := by decide +kernel
set_option maxRecDepth 100000 in
theorem zr_147_0 : (zl_147_0.flatMap (zz_wn zp_P zm_147.1.1.cls)).map some = ([1162, 1515, 1261] : List Nat).map (fun i => lw_tbl[i]?) := by rfl
set_option maxRecDepth 100000 in
theorem zs_147_0 : (zl_147_0.flatMap (zz_wn zp_P zm_147.1.1.cls)).all zz_isN = true := by decide +kernel
set_option maxRecDepth 100000 in
theorem zb_147_0 : zl_147_0.all (fun r => zz_wb zt_hh zp_P zt_cl zt_tf zt_fd zt_nf zm_147.1.1.cls zm_147.1.1.name r) = true := by decide +kernel
set_option maxRecDepth 100000 in
theorem zd_147_1 : ∀ r ∈ zl_147_1, decode zm_147.1.2.1 r.1 = .ok (r.2.1, r.2.2.1) := by decide +kernel
set_option maxRecDepth 100000 in
theorem zq_147_1 : (zl_147_1.flatMap (zz_wr zt_hh zp_P zt_cl zm_147.1.1.cls)).map some = ([1149, 42, 1147, 1165, 43, 1163] : List Nat).map (fun i => lw_tbl[i]?) := by rfl
set_option maxRecDepth 100000 in
theorem zg_147_1 : (zl_147_1.flatMap (zz_wr zt_hh zp_P zt_cl zm_147.1.1.cls)).all goodWord = true := by decide +kernel
set_option maxRecDepth 100000 in
theorem zr_147_1 : (zl_147_1.flatMap (zz_wn zp_P zm_147.1.1.cls)).map some = ([] : List Nat).map (fun i => lw_tbl[i]?) := by rfl
set_option maxRecDepth 100000 in
theorem zs_147_1 : (zl_147_1.flatMap (zz_wn zp_P zm_147.1.1.cls)).all zz_isN = true := by decide +kernel
set_option maxRecDepth 100000 in
theorem zb_147_1 : zl_147_1.all (fun r => zz_wb zt_hh zp_P zt_cl zt_tf zt_fd zt_nf zm_147.1.1.cls zm_147.1.1.name r) = true := by decide +kernel
set_option maxRecDepth 100000 in
theorem zy_147_0 : zl_147_0.all (fun r => zz_tb zt_hh zp_P zm_147 r) = true := by decide +kernel
set_option maxRecDepth 100000 in
theorem zy_147_1 : zl_147_1.all (fun r => zz_tb zt_hh zp_P zm_147 r) = true := by decide +kernel
theorem zw_147 : zz_okW zt_hh zp_P zt_cl zt_tf zt_fd zt_nf zt_T zt_N zm_147 := List.forall_mem_cons.mpr ⟨(zz_w_okL zd_147_0 zb_147_0 (zz_places goodWord zq_147_0 zg_147_0) (zz_places zz_isN zr_147_0 zs_147_0) zy_147_0), List.forall_mem_cons.mpr ⟨(zz_w_okL zd_147_1 zb_147_1 (zz_places goodWord zq_147_1 zg_147_1) (zz_places zz_isN zr_147_1 zs_147_1) zy_147_1), (fun _ h => absurd h List.not_mem_nil)⟩⟩
set_option maxRecDepth 100000 in
theorem zq_147 : [zz_cw zt_hh zm_147, Cond.initialized zm_147.1.1.cls].map some = ([1514, 224] : List Nat).map (fun i => lw_tbl[i]?) := by rfl
set_option maxRecDepth 100000 in
theorem zg_147 : [zz_cw zt_hh zm_147, Cond.initialized zm_147.1.1.cls].all goodWord = true := by decide +kernel
set_option maxRecDepth 100000 in
theorem zb_147 : (plainName zm_147.1.1.cls && (decide (zm_147.1.1.cls ≠ "java/lang/invoke/MethodHandle" ∧ zm_147.1.1.cls ≠ "java/lang/invoke/VarHandle") && decide (zm_147.1.2.2.1 ≤ 40))) = true := by decide +kernel
theorem zo_147 : zz_okM zt_hh zp_P zt_cl zt_tf zt_fd zt_nf zt_T zt_N zm_147 := zz_w_okM zw_147 zb_147 (zz_places goodWord zq_147 zg_147)
set_option maxRecDepth 100000 in
theorem zd_148_0 : ∀ r ∈ zl_148_0, decode zm_148.1.2.1 r.1 = .ok (r.2.1, r.2.2.1) := by decide +kernel
set_option maxRecDepth 100000 in
theorem zq_148_0 : (zl_148_0.flatMap (zz_wr zt_hh zp_P zt_cl zm_148.1.1.cls)).map some = ([1493, 90, 1491, 1518, 96, 1516, 1065, 491, 492, 494, 493] : List Nat).map (fun i => lw_tbl[i]?) := by rfl
set_option maxRecDepth 100000 in
theorem zg_148_0 : (zl_148_0.flatMap (zz_wr zt_hh zp_P zt_cl zm_148.1.1.cls)).all goodWord = true := by decide +kernel
set_option maxRecDepth 100000 in
theorem zr_148_0 : (zl_148_0.flatMap (zz_wn zp_P zm_148.1.1.cls)).map some = ([1515] : List Nat).map (fun i => lw_tbl[i]?) := by rfl
set_option maxRecDepth 100000 in
theorem zs_148_0 : (zl_148_0.flatMap (zz_wn zp_P zm_148.1.1.cls)).all zz_isN = true := by decide +kernel
set_option maxRecDepth 100000 in
theorem zb_148_0 : zl_148_0.all (fun r => zz_wb zt_hh zp_P zt_cl zt_tf zt_fd zt_nf zm_148.1.1.cls zm_148.1.1.name r) = true := by decide +kernel
set_option maxRecDepth 100000 in
theorem zy_148_0 : zl_148_0.all (fun r => zz_tb zt_hh zp_P zm_148 r) = true := by decide +kernel
theorem zw_148 : zz_okW zt_hh zp_P zt_cl zt_tf zt_fd zt_nf zt_T zt_N zm_148 := List.forall_mem_cons.mpr ⟨(zz_w_okL zd_148_0 zb_148_0 (zz_places goodWord zq_148_0 zg_148_0) (zz_places zz_isN zr_148_0 zs_148_0) zy_148_0), (fun _ h => absurd h List.not_mem_nil)⟩
set_option maxRecDepth 100000 in
theorem zq_148 : [zz_cw zt_hh zm_148, Cond.initialized zm_148.1.1.cls].map some = ([1523, 224] : List Nat).map (fun i => lw_tbl[i]?) := by rfl
set_option maxRecDepth 100000 in
theorem zg_148 : [zz_cw zt_hh zm_148, Cond.initialized zm_148.1.1.cls].all goodWord = true := by decide +kernel
set_option maxRecDepth 100000 in
theorem zb_148 : (plainName zm_148.1.1.cls && (decide (zm_148.1.1.cls ≠ "java/lang/invoke/MethodHandle" ∧ zm_148.1.1.cls ≠ "java/lang/invoke/VarHandle") && decide (zm_148.1.2.2.1 ≤ 40))) = true := by decide +kernel
theorem zo_148 : zz_okM zt_hh zp_P zt_cl zt_tf zt_fd zt_nf zt_T zt_N zm_148 := zz_w_okM zw_148 zb_148 (zz_places goodWord zq_148 zg_148)
set_option maxRecDepth 100000 in
theorem zd_149_0 : ∀ r ∈ zl_149_0, decode zm_149.1.2.1 r.1 = .ok (r.2.1, r.2.2.1) := by decide +kernel
set_option maxRecDepth 100000 in
theorem zq_149_0 : (zl_149_0.flatMap (zz_wr zt_hh zp_P zt_cl zm_149.1.1.cls)).map some = ([497, 495, 497] : List Nat).map (fun i => lw_tbl[i]?) := by rfl
set_option maxRecDepth 100000 in
theorem zg_149_0 : (zl_149_0.flatMap (zz_wr zt_hh zp_P zt_cl zm_149.1.1.cls)).all goodWord = true := by decide +kernel
set_option maxRecDepth 100000 in
theorem zr_149_0 : (zl_149_0.flatMap (zz_wn zp_P zm_149.1.1.cls)).map some = ([] : List Nat).map (fun i => lw_tbl[i]?) := by rfl
set_option maxRecDepth 100000 in
theorem zs_149_0 : (zl_149_0.flatMap (zz_wn zp_P zm_149.1.1.cls)).all zz_isN = true := by decide +kernel
set_option maxRecDepth 100000 in
theorem zb_149_0 : zl_149_0.all (fun r => zz_wb zt_hh zp_P zt_cl zt_tf zt_fd zt_nf zm_149.1.1.cls zm_149.1.1.name r) = true := by decide +kernel
set_option maxRecDepth 100000 in
theorem zy_149_0 : zl_149_0.all (fun r => zz_tb zt_hh zp_P zm_149 r) = true := by decide +kernel
theorem zw_149 : zz_okW zt_hh zp_P zt_cl zt_tf zt_fd zt_nf zt_T zt_N zm_149 := List.forall_mem_cons.mpr ⟨(zz_w_okL zd_149_0 zb_149_0 (zz_places goodWord zq_149_0 zg_149_0) (zz_places zz_isN zr_149_0 zs_149_0) zy_149_0), (fun _ h => absurd h List.not_mem_nil)⟩
set_option maxRecDepth 100000 in
theorem zq_149 : [zz_cw zt_hh zm_149, Cond.initialized zm_149.1.1.cls].map some = ([1519, 224] : List Nat).map (fun i => lw_tbl[i]?) := by rfl
set_option maxRecDepth 100000 in
theorem zg_149 : [zz_cw zt_hh zm_149, Cond.initialized zm_149.1.1.cls].all goodWord = true := by decide +kernel
set_option maxRecDepth 100000 in
theorem zb_149 : (plainName zm_149.1.1.cls && (decide (zm_149.1.1.cls ≠ "java/lang/invoke/MethodHandle" ∧ zm_149.1.1.cls ≠ "java/lang/invoke/VarHandle") && decide (zm_149.1.2.2.1 ≤ 40))) = true := by decide +kernel
theorem zo_149 : zz_okM zt_hh zp_P zt_cl zt_tf zt_fd zt_nf zt_T zt_N zm_149 := zz_w_okM zw_149 zb_149 (zz_places goodWord zq_149 zg_149)
set_option maxRecDepth 100000 in
theorem zd_150_0 : ∀ r ∈ zl_150_0, decode zm_150.1.2.1 r.1 = .ok (r.2.1, r.2.2.1) := by decide +kernel
