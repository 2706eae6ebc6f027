set_option maxRecDepth 100000 in
theorem zq_150_0 : (zl_150_0.flatMap (zz_wr zt_hh zp_P zt_cl zm_150.1.1.cls)).map some = ([1493, 90, 1491, 1210, 1149, 42, 1147, 1228, 503] : List Nat).map (fun i => lw_tbl[i]?) := by rfl
set_option maxRecDepth 100000 in
theorem zg_150_0 : (zl_150_0.flatMap (zz_wr zt_hh zp_P zt_cl zm_150.1.1.cls)).all goodWord = true := by decide +kernel
set_option maxRecDepth 100000 in
theorem zr_150_0 : (zl_150_0.flatMap (zz_wn zp_P zm_150.1.1.cls)).map some = ([1261, 1262] : List Nat).map (fun i => lw_tbl[i]?) := by rfl
set_option maxRecDepth 100000 in
theorem zs_150_0 : (zl_150_0.flatMap (zz_wn zp_P zm_150.1.1.cls)).all zz_isN = true := by decide +kernel
set_option maxRecDepth 100000 in
theorem zb_150_0 : zl_150_0.all (fun r => zz_wb zt_hh zp_P zt_cl zt_tf zt_fd zt_nf zm_150.1.1.cls zm_150.1.1.name r) = true := by decide +kernel
set_option maxRecDepth 100000 in
theorem zy_150_0 : zl_150_0.all (fun r => zz_tb zt_hh zp_P zm_150 r) = true := by decide +kernel
theorem zw_150 : zz_okW zt_hh zp_P zt_cl zt_tf zt_fd zt_nf zt_T zt_N zm_150 := List.forall_mem_cons.mpr ⟨(zz_w_okL zd_150_0 zb_150_0 (zz_places goodWord zq_150_0 zg_150_0) (zz_places zz_isN zr_150_0 zs_150_0) zy_150_0), (fun _ h => absurd h List.not_mem_nil)⟩
set_option maxRecDepth 100000 in
theorem zq_150 : [zz_cw zt_hh zm_150, Cond.initialized zm_150.1.1.cls].map some = ([1527, 224] : List Nat).map (fun i => lw_tbl[i]?) := by rfl
set_option maxRecDepth 100000 in
theorem zg_150 : [zz_cw zt_hh zm_150, Cond.initialized zm_150.1.1.cls].all goodWord = true := by decide +kernel
set_option maxRecDepth 100000 in
theorem zb_150 : (plainName zm_150.1.1.cls && (decide (zm_150.1.1.cls ≠ "java/lang/invoke/MethodHandle" ∧ zm_150.1.1.cls ≠ "java/lang/invoke/VarHandle") && decide (zm_150.1.2.2.1 ≤ 40))) = true := by decide +kernel
theorem zo_150 : zz_okM zt_hh zp_P zt_cl zt_tf zt_fd zt_nf zt_T zt_N zm_150 := zz_w_okM zw_150 zb_150 (zz_places goodWord zq_150 zg_150)
set_option maxRecDepth 100000 in
theorem zd_151_0 : ∀ r ∈ zl_151_0, decode zm_151.1.2.1 r.1 = .ok (r.2.1, r.2.2.1) := by decide +kernel
set_option maxRecDepth 100000 in
theorem zq_151_0 : (zl_151_0.flatMap (zz_wr zt_hh zp_P zt_cl zm_151.1.1.cls)).map some = ([1203, 46, 1201, 1210, 1228, 1149, 42, 1147, 1088, 1165, 43, 1163] : List Nat).map (fun i => lw_tbl[i]?) := by rfl
set_option maxRecDepth 100000 in
theorem zg_151_0 : (zl_151_0.flatMap (zz_wr zt_hh zp_P zt_cl zm_151.1.1.cls)).all goodWord = true := by decide +kernel
set_option maxRecDepth 100000 in
theorem zr_151_0 : (zl_151_0.flatMap (zz_wn zp_P zm_151.1.1.cls)).map some = ([1261, 1262, 1162] : List Nat).map (fun i => lw_tbl[i]?) := by rfl
set_option maxRecDepth 100000 in
theorem zs_151_0 : (zl_151_0.flatMap (zz_wn zp_P zm_151.1.1.cls)).all zz_isN = true := by decide +kernel
set_option maxRecDepth 100000 in
theorem zb_151_0 : zl_151_0.all (fun r => zz_wb zt_hh zp_P zt_cl zt_tf zt_fd zt_nf zm_151.1.1.cls zm_151.1.1.name r) = true := by decide +kernel
set_option maxRecDepth 100000 in
theorem zy_151_0 : zl_151_0.all (fun r => zz_tb zt_hh zp_P zm_151 r) = true := by decide +kernel
theorem zw_151 : zz_okW zt_hh zp_P zt_cl zt_tf zt_fd zt_nf zt_T zt_N zm_151 := List.forall_mem_cons.mpr ⟨(zz_w_okL zd_151_0 zb_151_0 (zz_places goodWord zq_151_0 zg_151_0) (zz_places zz_isN zr_151_0 zs_151_0) zy_151_0), (fun _ h => absurd h List.not_mem_nil)⟩
set_option maxRecDepth 100000 in
theorem zq_151 : [zz_cw zt_hh zm_151, Cond.initialized zm_151.1.1.cls].map some = ([1531, 224] : List Nat).map (fun i => lw_tbl[i]?) := by rfl
set_option maxRecDepth 100000 in
theorem zg_151 : [zz_cw zt_hh zm_151, Cond.initialized zm_151.1.1.cls].all goodWord = true := by decide +kernel
set_option maxRecDepth 100000 in
theorem zb_151 : (plainName zm_151.1.1.cls && (decide (zm_151.1.1.cls ≠ "java/lang/invoke/MethodHandle" ∧ zm_151.1.1.cls ≠ "java/lang/invoke/VarHandle") && decide (zm_151.1.2.2.1 ≤ 40))) = true := by decide +kernel
theorem zo_151 : zz_okM zt_hh zp_P zt_cl zt_tf zt_fd zt_nf zt_T zt_N zm_151 := zz_w_okM zw_151 zb_151 (zz_places goodWord zq_151 zg_151)
set_option maxRecDepth 100000 in
theorem zd_152_0 : ∀ r ∈ zl_152_0, decode zm_152.1.2.1 r.1 = .ok (r.2.1, r.2.2.1) := by decide +kernel
set_option maxRecDepth 100000 in
theorem zq_152_0 : (zl_152_0.flatMap (zz_wr zt_hh zp_P zt_cl zm_152.1.1.cls)).map some = ([1203, 46, 1201, 1203, 46, 1201, 1228, 1210, 1228, 486, 1125, 1126, 1490, 1493, 90, 1491, 1493, 90, 1491, 503, 1088, 1165, 43, 1163] : List Nat).map (fun i => lw_tbl[i]?) := by rfl
set_option maxRecDepth 100000 in
theorem zg_152_0 : (zl_152_0.flatMap (zz_wr zt_hh zp_P zt_cl zm_152.1.1.cls)).all goodWord = true := by decide +kernel
set_option maxRecDepth 100000 in
theorem zr_152_0 : (zl_152_0.flatMap (zz_wn zp_P zm_152.1.1.cls)).map some = ([1262, 1261, 1262, 1162] : List Nat).map (fun i => lw_tbl[i]?) := by rfl
set_option maxRecDepth 100000 in
theorem zs_152_0 : (zl_152_0.flatMap (zz_wn zp_P zm_152.1.1.cls)).all zz_isN = true := by decide +kernel
set_option maxRecDepth 100000 in
theorem zb_152_0 : zl_152_0.all (fun r => zz_wb zt_hh zp_P zt_cl zt_tf zt_fd zt_nf zm_152.1.1.cls zm_152.1.1.name r) = true := by decide +kernel
set_option maxRecDepth 100000 in
theorem zd_152_1 : ∀ r ∈ zl_152_1, decode zm_152.1.2.1 r.1 = .ok (r.2.1, r.2.2.1) := by decide +kernel
set_option maxRecDepth 100000 in
theorem zq_152_1 : (zl_152_1.flatMap (zz_wr zt_hh zp_P zt_cl zm_152.1.1.cls)).map some = ([1210, 1088, 486, 1223, 1224, 1481, 1165, 43, 1163] : List Nat).map (fun i => lw_tbl[i]?) := by rfl
set_option maxRecDepth 100000 in
theorem zg_152_1 : (zl_152_1.flatMap (zz_wr zt_hh zp_P zt_cl zm_152.1.1.cls)).all goodWord = true := by decide +kernel
set_option maxRecDepth 100000 in
theorem zr_152_1 : (zl_152_1.flatMap (zz_wn zp_P zm_152.1.1.cls)).map some = ([1261, 1162] : List Nat).map (fun i => lw_tbl[i]?) := by rfl
set_option maxRecDepth 100000 in
theorem zs_152_1 : (zl_152_1.flatMap (zz_wn zp_P zm_152.1.1.cls)).all zz_isN = true := by decide +kernel
set_option maxRecDepth 100000 in
theorem zb_152_1 : zl_152_1.all (fun r => zz_wb zt_hh zp_P zt_cl zt_tf zt_fd zt_nf zm_152.1.1.cls zm_152.1.1.name r) = true := by decide +kernel
set_option maxRecDepth 100000 in
theorem zy_152_0 : zl_152_0.all (fun r => zz_tb zt_hh zp_P zm_152 r) = true := by decide +kernel
set_option maxRecDepth 100000 in
theorem zy_152_1 : zl_152_1.all (fun r => zz_tb zt_hh zp_P zm_152 r) = true := by decide +kernel
theorem zw_152 : zz_okW zt_hh zp_P zt_cl zt_tf zt_fd zt_nf zt_T zt_N zm_152 := List.forall_mem_cons.mpr ⟨(zz_w_okL zd_152_0 zb_152_0 (zz_places goodWord zq_152_0 zg_152_0) (zz_places zz_isN zr_152_0 zs_152_0) zy_152_0), List.forall_mem_cons.mpr ⟨(zz_w_okL zd_152_1 zb_152_1 (zz_places goodWord zq_152_1 zg_152_1) (zz_places zz_isN zr_152_1 zs_152_1) zy_152_1), (fun _ h => absurd h List.not_mem_nil)⟩⟩
set_option maxRecDepth 100000 in
theorem zq_152 : [zz_cw zt_hh zm_152, Cond.initialized zm_152.1.1.cls].map some = ([1535, 224] : List Nat).map (fun i => lw_tbl[i]?) := by rfl
set_option maxRecDepth 100000 in
theorem zg_152 : [zz_cw zt_hh zm_152, Cond.initialized zm_152.1.1.cls].all goodWord = true := by decide +kernel
set_option maxRecDepth 100000 in
theorem zb_152 : (plainName zm_152.1.1.cls && (decide (zm_152.1.1.cls ≠ "java/lang/invoke/MethodHandle" ∧ zm_152.1.1.cls ≠ "java/lang/invoke/VarHandle") && decide (zm_152.1.2.2.1 ≤ 40))) = true := by decide +kernel
theorem zo_152 : zz_okM zt_hh zp_P zt_cl zt_tf zt_fd zt_nf zt_T zt_N zm_152 := zz_w_okM zw_152 zb_152 (zz_places goodWord zq_152 zg_152)
set_option maxRecDepth 100000 in
theorem zd_153_0 : ∀ r ∈ zl_153_0, decode zm_153.1.2.1 r.1 = .ok (r.2.1, r.2.2.1) := by decide +kernel
set_option maxRecDepth 100000 in
theorem zq_153_0 : (zl_153_0.flatMap (zz_wr zt_hh zp_P zt_cl zm_153.1.1.cls)).map some = ([1493, 90, 1491, 1210, 1228, 1149, 42, 1147, 1149, 42, 1147] : List Nat).map (fun i => lw_tbl[i]?) := by rfl
set_option maxRecDepth 100000 in
theorem zg_153_0 : (zl_153_0.flatMap (zz_wr zt_hh zp_P zt_cl zm_153.1.1.cls)).all goodWord = true := by decide +kernel
set_option maxRecDepth 100000 in
theorem zr_153_0 : (zl_153_0.flatMap (zz_wn zp_P zm_153.1.1.cls)).map some = ([1261, 1262] : List Nat).map (fun i => lw_tbl[i]?) := by rfl
set_option maxRecDepth 100000 in
theorem zs_153_0 : (zl_153_0.flatMap (zz_wn zp_P zm_153.1.1.cls)).all zz_isN = true := by decide +kernel
set_option maxRecDepth 100000 in
theorem zb_153_0 : zl_153_0.all (fun r => zz_wb zt_hh zp_P zt_cl zt_tf zt_fd zt_nf zm_153.1.1.cls zm_153.1.1.name r) = true := by decide +kernel
set_option maxRecDepth 100000 in
theorem zy_153_0 : zl_153_0.all (fun r => zz_tb zt_hh zp_P zm_153 r) = true := by decide +kernel
theorem zw_153 : zz_okW zt_hh zp_P zt_cl zt_tf zt_fd zt_nf zt_T zt_N zm_153 := List.forall_mem_cons.mpr ⟨(zz_w_okL zd_153_0 zb_153_0 (zz_places goodWord zq_153_0 zg_153_0) (zz_places zz_isN zr_153_0 zs_153_0) zy_153_0), (fun _ h => absurd h List.not_mem_nil)⟩
set_option maxRecDepth 100000 in
theorem zq_153 : [zz_cw zt_hh zm_153, Cond.initialized zm_153.1.1.cls].map some = ([1569, 224] : List Nat).map (fun i => lw_tbl[i]?) := by rfl
set_option maxRecDepth 100000 in
theorem zg_153 : [zz_cw zt_hh zm_153, Cond.initialized zm_153.1.1.cls].all goodWord = true := by decide +kernel
set_option maxRecDepth 100000 in
theorem zb_153 : (plainName zm_153.1.1.cls && (decide (zm_153.1.1.cls ≠ "java/lang/invoke/MethodHandle" ∧ zm_153.1.1.cls ≠ "java/lang/invoke/VarHandle") && decide (zm_153.1.2.2.1 ≤ 40))) = true := by decide +kernel
theorem zo_153 : zz_okM zt_hh zp_P zt_cl zt_tf zt_fd zt_nf zt_T zt_N zm_153 := zz_w_okM zw_153 zb_153 (zz_places goodWord zq_153 zg_153)
set_option maxRecDepth 100000 in
theorem zd_154_0 : ∀ r ∈ zl_154_0, decode zm_154.1.2.1 r.1 = .ok (r.2.1, r.2.2.1) := by decide +kernel
set_option maxRecDepth 100000 in
theorem zq_154_0 : (zl_154_0.flatMap (zz_wr zt_hh zp_P zt_cl zm_154.1.1.cls)).map some = ([501, 498, 498, 501, 638, 1574, 498, 499, 501, 638, 1574, 499, 500, 501, 638, 1574, 500, 498, 501, 497] : List Nat).map (fun i => lw_tbl[i]?) := by rfl
set_option maxRecDepth 100000 in
theorem zg_154_0 : (zl_154_0.flatMap (zz_wr zt_hh zp_P zt_cl zm_154.1.1.cls)).all goodWord = true := by decide +kernel
set_option maxRecDepth 100000 in
theorem zr_154_0 : (zl_154_0.flatMap (zz_wn zp_P zm_154.1.1.cls)).map some = ([] : List Nat).map (fun i => lw_tbl[i]?) := by rfl
set_option maxRecDepth 100000 in
theorem zs_154_0 : (zl_154_0.flatMap (zz_wn zp_P zm_154.1.1.cls)).all zz_isN = true := by decide +kernel
set_option maxRecDepth 100000 in
theorem zb_154_0 : zl_154_0.all (fun r => zz_wb zt_hh zp_P zt_cl zt_tf zt_fd zt_nf zm_154.1.1.cls zm_154.1.1.name r) = true := by decide +kernel
set_option maxRecDepth 100000 in
theorem zd_154_1 : ∀ r ∈ zl_154_1, decode zm_154.1.2.1 r.1 = .ok (r.2.1, r.2.2.1) := by decide +kernel
set_option maxRecDepth 100000 in
theorem zq_154_1 : (zl_154_1.flatMap (zz_wr zt_hh zp_P zt_cl zm_154.1.1.cls)).map some = ([499, 501, 494, 500, 501, 501, 501] : List Nat).map (fun i => lw_tbl[i]?) := by rfl
set_option maxRecDepth 100000 in
theorem zg_154_1 : (zl_154_1.flatMap (zz_wr zt_hh zp_P zt_cl zm_154.1.1.cls)).all goodWord = true := by decide +kernel
set_option maxRecDepth 100000 in
theorem zr_154_1 : (zl_154_1.flatMap (zz_wn zp_P zm_154.1.1.cls)).map some = ([] : List Nat).map (fun i => lw_tbl[i]?) := by rfl
set_option maxRecDepth 100000 in
theorem zs_154_1 : (zl_154_1.flatMap (zz_wn zp_P zm_154.1.1.cls)).all zz_isN = true := by decide +kernel
set_option maxRecDepth 100000 in
theorem zb_154_1 : zl_154_1.all (fun r => zz_wb zt_hh zp_P zt_cl zt_tf zt_fd zt_nf zm_154.1.1.cls zm_154.1.1.name r) = true := by decide +kernel
set_option maxRecDepth 100000 in
theorem zy_154_0 : zl_154_0.all (fun r => zz_tb zt_hh zp_P zm_154 r) = true := by decide +kernel
set_option maxRecDepth 100000 in
theorem zy_154_1 : zl_154_1.all (fun r => zz_tb zt_hh zp_P zm_154 r) = true := by decide +kernel
theorem zw_154 : zz_okW zt_hh zp_P zt_cl zt_tf zt_fd zt_nf zt_T zt_N zm_154 := List.forall_mem_cons.mpr ⟨(zz_w_okL zd_154_0 zb_154_0 (zz_places goodWord zq_154_0 zg_154_0) (zz_places zz_isN zr_154_0 zs_154_0) zy_154_0), List.forall_mem_cons.mpr ⟨(zz_w_okL zd_154_1 zb_154_1 (zz_places goodWord zq_154_1 zg_154_1) (zz_places zz_isN zr_154_1 zs_154_1) zy_154_1), (fun _ h => absurd h List.not_mem_nil)⟩⟩
set_option maxRecDepth 100000 in
theorem zq_154 : [zz_cw zt_hh zm_154, Cond.initialized zm_154.1.1.cls].map some = ([1573, 224] : List Nat).map (fun i => lw_tbl[i]?) := by rfl
set_option maxRecDepth 100000 in
theorem zg_154 : [zz_cw zt_hh zm_154, Cond.initialized zm_154.1.1.cls].all goodWord = true := by decide +kernel
set_option maxRecDepth 100000 in
theorem zb_154 : (plainName zm_154.1.1.cls && (decide (zm_154.1.1.cls ≠ "java/lang/invoke/MethodHandle" ∧ zm_154.1.1.cls ≠ "java/lang/invoke/VarHandle") && decide (zm_154.1.2.2.1 ≤ 40))) = true := by decide +kernel
theorem zo_154 : zz_okM zt_hh zp_P zt_cl zt_tf zt_fd zt_nf zt_T zt_N zm_154 := zz_w_okM zw_154 zb_154 (zz_places goodWord zq_154 zg_154)
set_option maxRecDepth 100000 in
theorem zd_155_0 : ∀ r ∈ zl_155_0, decode zm_155.1.2.1 r.1 = .ok (r.2.1, r.2.2.1) := by decide +kernel
set_option maxRecDepth 100000 in
theorem zq_155_0 : (zl_155_0.flatMap (zz_wr zt_hh zp_P zt_cl zm_155.1.1.cls)).map some = ([488, 1580, 1581, 1579, 1088, 488, 1585, 1586, 1584, 1149, 42, 1147, 1165, 43, 1163] : List Nat).map (fun i => lw_tbl[i]?) := by rfl
set_option maxRecDepth 100000 in
theorem zg_155_0 : (zl_155_0.flatMap (zz_wr zt_hh zp_P zt_cl zm_155.1.1.cls)).all goodWord = true := by decide +kernel
set_option maxRecDepth 100000 in
theorem zr_155_0 : (zl_155_0.flatMap (zz_wn zp_P zm_155.1.1.cls)).map some = ([1162] : List Nat).map (fun i => lw_tbl[i]?) := by rfl
set_option maxRecDepth 100000 in
theorem zs_155_0 : (zl_155_0.flatMap (zz_wn zp_P zm_155.1.1.cls)).all zz_isN = true := by decide +kernel
set_option maxRecDepth 100000 in
theorem zb_155_0 : zl_155_0.all (fun r => zz_wb zt_hh zp_P zt_cl zt_tf zt_fd zt_nf zm_155.1.1.cls zm_155.1.1.name r) = true := by decide +kernel
set_option maxRecDepth 100000 in
theorem zy_155_0 : zl_155_0.all (fun r => zz_tb zt_hh zp_P zm_155 r) = true := by decide +kernel
theorem zw_155 : zz_okW zt_hh zp_P zt_cl zt_tf zt_fd zt_nf zt_T zt_N zm_155 := List.forall_mem_cons.mpr ⟨(zz_w_okL zd_155_0 zb_155_0 (zz_places goodWord zq_155_0 zg_155_0) (zz_places zz_isN zr_155_0 zs_155_0) zy_155_0), (fun _ h => absurd h List.not_mem_nil)⟩
set_option maxRecDepth 100000 in
theorem zq_155 : [zz_cw zt_hh zm_155, Cond.initialized zm_155.1.1.cls].map some = ([1578, 224] : List Nat).map (fun i => lw_tbl[i]?) := by rfl
set_option maxRecDepth 100000 in
theorem zg_155 : [zz_cw zt_hh zm_155, Cond.initialized zm_155.1.1.cls].all goodWord = true := by decide +kernel
set_option maxRecDepth 100000 in
theorem zb_155 : (plainName zm_155.1.1.cls && (decide (zm_155.1.1.cls ≠ "java/lang/invoke/MethodHandle" ∧ zm_155.1.1.cls ≠ "java/lang/invoke/VarHandle") && decide (zm_155.1.2.2.1 ≤ 40))) = true := by decide +kernel
theorem zo_155 : zz_okM zt_hh zp_P zt_cl zt_tf zt_fd zt_nf zt_T zt_N zm_155 := zz_w_okM zw_155 zb_155 (zz_places goodWord zq_155 zg_155)
set_option maxRecDepth 100000 in
theorem zd_156_0 : ∀ r ∈ zl_156_0, decode zm_156.1.2.1 r.1 = .ok (r.2.1, r.2.2.1) := by decide +kernel
set_option maxRecDepth 100000 in
theorem zq_156_0 : (zl_156_0.flatMap (zz_wr zt_hh zp_P zt_cl zm_156.1.1.cls)).map some = ([488, 1152, 1153, 1151, 501, 504, 501, 501, 498, 501, 497, 499, 501, 494, 500] : List Nat).map (fun i => lw_tbl[i]?) := by rfl
set_option maxRecDepth 100000 in
theorem zg_156_0 : (zl_156_0.flatMap (zz_wr zt_hh zp_P zt_cl zm_156.1.1.cls)).all goodWord = true := by decide +kernel
set_option maxRecDepth 100000 in
theorem zr_156_0 : (zl_156_0.flatMap (zz_wn zp_P zm_156.1.1.cls)).map some = ([] : List Nat).map (fun i => lw_tbl[i]?) := by rfl
set_option maxRecDepth 100000 in
theorem zs_156_0 : (zl_156_0.flatMap (zz_wn zp_P zm_156.1.1.cls)).all zz_isN = true := by decide +kernel
set_option maxRecDepth 100000 in
theorem zb_156_0 : zl_156_0.all (fun r => zz_wb zt_hh zp_P zt_cl zt_tf zt_fd zt_nf zm_156.1.1.cls zm_156.1.1.name r) = true := by decide +kernel
set_option maxRecDepth 100000 in
theorem zd_156_1 : ∀ r ∈ zl_156_1, decode zm_156.1.2.1 r.1 = .ok (r.2.1, r.2.2.1) := by decide +kernel
set_option maxRecDepth 100000 in
theorem zq_156_1 : (zl_156_1.flatMap (zz_wr zt_hh zp_P zt_cl zm_156.1.1.cls)).map some = ([501, 503] : List Nat).map (fun i => lw_tbl[i]?) := by rfl
set_option maxRecDepth 100000 in
theorem zg_156_1 : (zl_156_1.flatMap (zz_wr zt_hh zp_P zt_cl zm_156.1.1.cls)).all goodWord = true := by decide +kernel
set_option maxRecDepth 100000 in
theorem zr_156_1 : (zl_156_1.flatMap (zz_wn zp_P zm_156.1.1.cls)).map some = ([] : List Nat).map (fun i => lw_tbl[i]?) := by rfl
set_option maxRecDepth 100000 in
theorem zs_156_1 : (zl_156_1.flatMap (zz_wn zp_P zm_156.1.1.cls)).all zz_isN = true := by decide +kernel
set_option maxRecDepth 100000 in
theorem zb_156_1 : zl_156_1.all (fun r => zz_wb zt_hh zp_P zt_cl zt_tf zt_fd zt_nf zm_156.1.1.cls zm_156.1.1.name r) = true := by decide +kernel
set_option maxRecDepth 100000 in
theorem zy_156_0 : zl_156_0.all (fun r => zz_tb zt_hh zp_P zm_156 r) = true := by decide +kernel
set_option maxRecDepth 100000 in
theorem zy_156_1 : zl_156_1.all (fun r => zz_tb zt_hh zp_P zm_156 r) = true := by decide +kernel
theorem zw_156 : zz_okW zt_hh zp_P zt_cl zt_tf zt_fd zt_nf zt_T zt_N zm_156 := List.forall_mem_cons.mpr ⟨(zz_w_okL zd_156_0 zb_156_0 (zz_places goodWord zq_156_0 zg_156_0) (zz_places zz_isN zr_156_0 zs_156_0) zy_156_0), List.forall_mem_cons.mpr ⟨(zz_w_okL zd_156_1 zb_156_1 (zz_places goodWord zq_156_1 zg_156_1) (zz_places zz_isN zr_156_1 zs_156_1) zy_156_1), (fun _ h => absurd h List.not_mem_nil)⟩⟩
set_option maxRecDepth 100000 in
theorem zq_156 : [zz_cw zt_hh zm_156, Cond.initialized zm_156.1.1.cls].map some = ([1150, 224] : List Nat).map (fun i => lw_tbl[i]?) := by rfl
set_option maxRecDepth 100000 in
theorem zg_156 : [zz_cw zt_hh zm_156, Cond.initialized zm_156.1.1.cls].all goodWord = true := by decide +kernel
set_option maxRecDepth 100000 in
theorem zb_156 : (plainName zm_156.1.1.cls && (decide (zm_156.1.1.cls ≠ "java/lang/invoke/MethodHandle" ∧ zm_156.1.1.cls ≠ "java/lang/invoke/VarHandle") && decide (zm_156.1.2.2.1 ≤ 40))) = true := by decide +kernel
theorem zo_156 : zz_okM zt_hh zp_P zt_cl zt_tf zt_fd zt_nf zt_T zt_N zm_156 := zz_w_okM zw_156 zb_156 (zz_places goodWord zq_156 zg_156)
set_option maxRecDepth 100000 in
theorem zd_157_0 : ∀ r ∈ zl_157_0, decode zm_157.1.2.1 r.1 = .ok (r.2.1, r.2.2.1) := by decide +kernel
set_option maxRecDepth 100000 in
theorem zq_157_0 : (zl_157_0.flatMap (zz_wr zt_hh zp_P zt_cl zm_157.1.1.cls)).map some = ([497, 1149, 42, 1147, 495, 497, 494, 1155, 701, 228, 702, 496, 497, 503, 497, 497, 488, 497, 1157, 1158, 1156] : List Nat).map (fun i => lw_tbl[i]?) := by rfl
set_option maxRecDepth 100000 in
theorem zg_157_0 : (zl_157_0.flatMap (zz_wr zt_hh zp_P zt_cl zm_157.1.1.cls)).all goodWord = true := by decide +kernel
set_option maxRecDepth 100000 in
theorem zr_157_0 : (zl_157_0.flatMap (zz_wn zp_P zm_157.1.1.cls)).map some = ([] : List Nat).map (fun i => lw_tbl[i]?) := by rfl
set_option maxRecDepth 100000 in
theorem zs_157_0 : (zl_157_0.flatMap (zz_wn zp_P zm_157.1.1.cls)).all zz_isN = true := by decide +kernel
set_option maxRecDepth 100000 in
theorem zb_157_0 : zl_157_0.all (fun r => zz_wb zt_hh zp_P zt_cl zt_tf zt_fd zt_nf zm_157.1.1.cls zm_157.1.1.name r) = true := by decide +kernel
set_option maxRecDepth 100000 in
theorem zd_157_1 : ∀ r ∈ zl_157_1, decode zm_157.1.2.1 r.1 = .ok (r.2.1, r.2.2.1) := by decide +kernel
set_option maxRecDepth 100000 in
theorem zq_157_1 : (zl_157_1.flatMap (zz_wr zt_hh zp_P zt_cl zm_157.1.1.cls)).map some = ([502, 1039, 1040, 1161, 1088, 1165, 43, 1163, 502, 1169, 1170, 1168, 503] : List Nat).map (fun i => lw_tbl[i]?) := by rfl
set_option maxRecDepth 100000 in
theorem zg_157_1 : (zl_157_1.flatMap (zz_wr zt_hh zp_P zt_cl zm_157.1.1.cls)).all goodWord = true := by decide +kernel
set_option maxRecDepth 100000 in
theorem zr_157_1 : (zl_157_1.flatMap (zz_wn zp_P zm_157.1.1.cls)).map some = ([1162] : List Nat).map (fun i => lw_tbl[i]?) := by rfl
set_option maxRecDepth 100000 in
theorem zs_157_1 : (zl_157_1.flatMap (zz_wn zp_P zm_157.1.1.cls)).all zz_isN = true := by decide +kernel
set_option maxRecDepth 100000 in
theorem zb_157_1 : zl_157_1.all (fun r => zz_wb zt_hh zp_P zt_cl zt_tf zt_fd zt_nf zm_157.1.1.cls zm_157.1.1.name r) = true := by decide +kernel
set_option maxRecDepth 100000 in
theorem zy_157_0 : zl_157_0.all (fun r => zz_tb zt_hh zp_P zm_157 r) = true := by decide +kernel
set_option maxRecDepth 100000 in
theorem zy_157_1 : zl_157_1.all (fun r => zz_tb zt_hh zp_P zm_157 r) = true := by decide +kernel
theorem zw_157 : zz_okW zt_hh zp_P zt_cl zt_tf zt_fd zt_nf zt_T zt_N zm_157 := List.forall_mem_cons.mpr ⟨(zz_w_okL zd_157_0 zb_157_0 (zz_places goodWord zq_157_0 zg_157_0) (zz_places zz_isN zr_157_0 zs_157_0) zy_157_0), List.forall_mem_cons.mpr ⟨(zz_w_okL zd_157_1 zb_157_1 (zz_places goodWord zq_157_1 zg_157_1) (zz_places zz_isN zr_157_1 zs_157_1) zy_157_1), (fun _ h => absurd h List.not_mem_nil)⟩⟩
set_option maxRecDepth 100000 in
theorem zq_157 : [zz_cw zt_hh zm_157, Cond.initialized zm_157.1.1.cls].map some = ([1146, 224] : List Nat).map (fun i => lw_tbl[i]?) := by rfl
set_option maxRecDepth 100000 in
theorem zg_157 : [zz_cw zt_hh zm_157, Cond.initialized zm_157.1.1.cls].all goodWord = true := by decide +kernel
set_option maxRecDepth 100000 in
theorem zb_157 : (plainName zm_157.1.1.cls && (decide (zm_157.1.1.cls ≠ "java/lang/invoke/MethodHandle" ∧ zm_157.1.1.cls ≠ "java/lang/invoke/VarHandle") && decide (zm_157.1.2.2.1 ≤ 40))) = true := by decide +kernel
theorem zo_157 : zz_okM zt_hh zp_P zt_cl zt_tf zt_fd zt_nf zt_T zt_N zm_157 := zz_w_okM zw_157 zb_157 (zz_places goodWord zq_157 zg_157)
set_option maxRecDepth 100000 in
theorem zd_158_0 : ∀ r ∈ zl_158_0, decode zm_158.1.2.1 r.1 = .ok (r.2.1, r.2.2.1) := by decide +kernel
set_option maxRecDepth 100000 in
theorem zq_158_0 : (zl_158_0.flatMap (zz_wr zt_hh zp_P zt_cl zm_158.1.1.cls)).map some = ([1493, 90, 1491, 501, 498, 501, 497, 501, 501, 497, 497, 497, 495, 497, 494] : List Nat).map (fun i => lw_tbl[i]?) := by rfl
set_option maxRecDepth 100000 in
theorem zg_158_0 : (zl_158_0.flatMap (zz_wr zt_hh zp_P zt_cl zm_158.1.1.cls)).all goodWord = true := by decide +kernel
set_option maxRecDepth 100000 in
theorem zr_158_0 : (zl_158_0.flatMap (zz_wn zp_P zm_158.1.1.cls)).map some = ([] : List Nat).map (fun i => lw_tbl[i]?) := by rfl
set_option maxRecDepth 100000 in
theorem zs_158_0 : (zl_158_0.flatMap (zz_wn zp_P zm_158.1.1.cls)).all zz_isN = true := by decide +kernel
set_option maxRecDepth 100000 in
theorem zb_158_0 : zl_158_0.all (fun r => zz_wb zt_hh zp_P zt_cl zt_tf zt_fd zt_nf zm_158.1.1.cls zm_158.1.1.name r) = true := by decide +kernel
set_option maxRecDepth 100000 in
theorem zd_158_1 : ∀ r ∈ zl_158_1, decode zm_158.1.2.1 r.1 = .ok (r.2.1, r.2.2.1) := by decide +kernel
set_option maxRecDepth 100000 in
theorem zq_158_1 : (zl_158_1.flatMap (zz_wr zt_hh zp_P zt_cl zm_158.1.1.cls)).map some = ([496, 497, 503, 1165, 43, 1163, 497, 504] : List Nat).map (fun i => lw_tbl[i]?) := by rfl
set_option maxRecDepth 100000 in
theorem zg_158_1 : (zl_158_1.flatMap (zz_wr zt_hh zp_P zt_cl zm_158.1.1.cls)).all goodWord = true := by decide +kernel
set_option maxRecDepth 100000 in
theorem zr_158_1 : (zl_158_1.flatMap (zz_wn zp_P zm_158.1.1.cls)).map some = ([] : List Nat).map (fun i => lw_tbl[i]?) := by rfl
set_option maxRecDepth 100000 in
theorem zs_158_1 : (zl_158_1.flatMap (zz_wn zp_P zm_158.1.1.cls)).all zz_isN = true := by decide +kernel
set_option maxRecDepth 100000 in
theorem zb_158_1 : zl_158_1.all (fun r => zz_wb zt_hh zp_P zt_cl zt_tf zt_fd zt_nf zm_158.1.1.cls zm_158.1.1.name r) = true := by decide +kernel
set_option maxRecDepth 100000 in
theorem zy_158_0 : zl_158_0.all (fun r => zz_tb zt_hh zp_P zm_158 r) = true := by decide +kernel
set_option maxRecDepth 100000 in
theorem zy_158_1 : zl_158_1.all (fun r => zz_tb zt_hh zp_P zm_158 r) = true := by decide +kernel
theorem zw_158 : zz_okW zt_hh zp_P zt_cl zt_tf zt_fd zt_nf zt_T zt_N zm_158 := List.forall_mem_cons.mpr ⟨(zz_w_okL zd_158_0 zb_158_0 (zz_places goodWord zq_158_0 zg_158_0) (zz_places zz_isN zr_158_0 zs_158_0) zy_158_0), List.forall_mem_cons.mpr ⟨(zz_w_okL zd_158_1 zb_158_1 (zz_places goodWord zq_158_1 zg_158_1) (zz_places zz_isN zr_158_1 zs_158_1) zy_158_1), (fun _ h => absurd h List.not_mem_nil)⟩⟩
set_option maxRecDepth 100000 in
theorem zq_158 : [zz_cw zt_hh zm_158, Cond.initialized zm_158.1.1.cls].map some = ([1565, 224] : List Nat).map (fun i => lw_tbl[i]?) := by rfl
set_option maxRecDepth 100000 in
theorem zg_158 : [zz_cw zt_hh zm_158, Cond.initialized zm_158.1.1.cls].all goodWord = true := by decide +kernel
set_option maxRecDepth 100000 in
theorem zb_158 : (plainName zm_158.1.1.cls && (decide (zm_158.1.1.cls ≠ "java/lang/invoke/MethodHandle" ∧ zm_158.1.1.cls ≠ "java/lang/invoke/VarHandle") && decide (zm_158.1.2.2.1 ≤ 40))) = true := by decide +kernel
theorem zo_158 : zz_okM zt_hh zp_P zt_cl zt_tf zt_fd zt_nf zt_T zt_N zm_158 := zz_w_okM zw_158 zb_158 (zz_places goodWord zq_158 zg_158)
set_option maxRecDepth 100000 in
theorem zd_159_0 : ∀ r ∈ zl_159_0, decode zm_159.1.2.1 r.1 = .ok (r.2.1, r.2.2.1) := by decide +kernel
set_option maxRecDepth 100000 in
theorem zq_159_0 : (zl_159_0.flatMap (zz_wr zt_hh zp_P zt_cl zm_159.1.1.cls)).map some = ([1203, 46, 1201, 1203, 46, 1201, 1203, 46, 1201, 1203, 46, 1201, 489, 1478, 1479, 1477, 1149, 42, 1147, 489, 486, 1228, 1223, 1224, 1481] : List Nat).map (fun i => lw_tbl[i]?) := by rfl
set_option maxRecDepth 100000 in
theorem zg_159_0 : (zl_159_0.flatMap (zz_wr zt_hh zp_P zt_cl zm_159.1.1.cls)).all goodWord = true := by decide +kernel
set_option maxRecDepth 100000 in
theorem zr_159_0 : (zl_159_0.flatMap (zz_wn zp_P zm_159.1.1.cls)).map some = ([1262] : List Nat).map (fun i => lw_tbl[i]?) := by rfl
set_option maxRecDepth 100000 in
theorem zs_159_0 : (zl_159_0.flatMap (zz_wn zp_P zm_159.1.1.cls)).all zz_isN = true := by decide +kernel
set_option maxRecDepth 100000 in
theorem zb_159_0 : zl_159_0.all (fun r => zz_wb zt_hh zp_P zt_cl zt_tf zt_fd zt_nf zm_159.1.1.cls zm_159.1.1.name r) = true := by decide +kernel
set_option maxRecDepth 100000 in
theorem zd_159_1 : ∀ r ∈ zl_159_1, decode zm_159.1.2.1 r.1 = .ok (r.2.1, r.2.2.1) := by decide +kernel
set_option maxRecDepth 100000 in
theorem zq_159_1 : (zl_159_1.flatMap (zz_wr zt_hh zp_P zt_cl zm_159.1.1.cls)).map some = ([1469, 1470, 1468, 1210, 1228, 1149, 42, 1147, 489, 1469, 1470, 1468, 1259, 53, 1257] : List Nat).map (fun i => lw_tbl[i]?) := by rfl
set_option maxRecDepth 100000 in
theorem zg_159_1 : (zl_159_1.flatMap (zz_wr zt_hh zp_P zt_cl zm_159.1.1.cls)).all goodWord = true := by decide +kernel
set_option maxRecDepth 100000 in
theorem zr_159_1 : (zl_159_1.flatMap (zz_wn zp_P zm_159.1.1.cls)).map some = ([1261, 1262] : List Nat).map (fun i => lw_tbl[i]?) := by rfl
set_option maxRecDepth 100000 in
theorem zs_159_1 : (zl_159_1.flatMap (zz_wn zp_P zm_159.1.1.cls)).all zz_isN = true := by decide +kernel
set_option maxRecDepth 100000 in
theorem zb_159_1 : zl_159_1.all (fun r => zz_wb zt_hh zp_P zt_cl zt_tf zt_fd zt_nf zm_159.1.1.cls zm_159.1.1.name r) = true := by decide +kernel
set_option maxRecDepth 100000 in
theorem zy_159_0 : zl_159_0.all (fun r => zz_tb zt_hh zp_P zm_159 r) = true := by decide +kernel
set_option maxRecDepth 100000 in
theorem zy_159_1 : zl_159_1.all (fun r => zz_tb zt_hh zp_P zm_159 r) = true := by decide +kernel
theorem zw_159 : zz_okW zt_hh zp_P zt_cl zt_tf zt_fd zt_nf zt_T zt_N zm_159 := List.forall_mem_cons.mpr ⟨(zz_w_okL zd_159_0 zb_159_0 (zz_places goodWord zq_159_0 zg_159_0) (zz_places zz_isN zr_159_0 zs_159_0) zy_159_0), List.forall_mem_cons.mpr ⟨(zz_w_okL zd_159_1 zb_159_1 (zz_places goodWord zq_159_1 zg_159_1) (zz_places zz_isN zr_159_1 zs_159_1) zy_159_1), (fun _ h => absurd h List.not_mem_nil)⟩⟩
set_option maxRecDepth 100000 in
theorem zq_159 : [zz_cw zt_hh zm_159, Cond.initialized zm_159.1.1.cls].map some = ([1476, 224] : List Nat).map (fun i => lw_tbl[i]?) := by rfl
set_option maxRecDepth 100000 in
theorem zg_159 : [zz_cw zt_hh zm_159, Cond.initialized zm_159.1.1.cls].all goodWord = true := by decide +kernel
set_option maxRecDepth 100000 in
theorem zb_159 : (plainName zm_159.1.1.cls && (decide (zm_159.1.1.cls ≠ "java/lang/invoke/MethodHandle" ∧ zm_159.1.1.cls ≠ "java/lang/invoke/VarHandle") && decide (zm_159.1.2.2.1 ≤ 40))) = true := by decide +kernel
theorem zo_159 : zz_okM zt_hh zp_P zt_cl zt_tf zt_fd zt_nf zt_T zt_N zm_159 := zz_w_okM zw_159 zb_159 (zz_places goodWord zq_159 zg_159)
set_option maxRecDepth 100000 in
theorem zd_160_0 : ∀ r ∈ zl_160_0, decode zm_160.1.2.1 r.1 = .ok (r.2.1, r.2.2.1) := by decide +kernel
set_option maxRecDepth 100000 in
theorem zq_160_0 : (zl_160_0.flatMap (zz_wr zt_hh zp_P zt_cl zm_160.1.1.cls)).map some = ([1203, 46, 1201, 1210, 1149, 42, 1147, 1088, 1165, 43, 1163] : List Nat).map (fun i => lw_tbl[i]?) := by rfl
set_option maxRecDepth 100000 in
theorem zg_160_0 : (zl_160_0.flatMap (zz_wr zt_hh zp_P zt_cl zm_160.1.1.cls)).all goodWord = true := by decide +kernel
set_option maxRecDepth 100000 in
theorem zr_160_0 : (zl_160_0.flatMap (zz_wn zp_P zm_160.1.1.cls)).map some = ([1261, 1162] : List Nat).map (fun i => lw_tbl[i]?) := by rfl
set_option maxRecDepth 100000 in
theorem zs_160_0 : (zl_160_0.flatMap (zz_wn zp_P zm_160.1.1.cls)).all zz_isN = true := by decide +kernel
set_option maxRecDepth 100000 in
theorem zb_160_0 : zl_160_0.all (fun r => zz_wb zt_hh zp_P zt_cl zt_tf zt_fd zt_nf zm_160.1.1.cls zm_160.1.1.name r) = true := by decide +kernel
set_option maxRecDepth 100000 in
theorem zy_160_0 : zl_160_0.all (fun r => zz_tb zt_hh zp_P zm_160 r) = true := by decide +kernel
theorem zw_160 : zz_okW zt_hh zp_P zt_cl zt_tf zt_fd zt_nf zt_T zt_N zm_160 := List.forall_mem_cons.mpr ⟨(zz_w_okL zd_160_0 zb_160_0 (zz_places goodWord zq_160_0 zg_160_0) (zz_places zz_isN zr_160_0 zs_160_0) zy_160_0), (fun _ h => absurd h List.not_mem_nil)⟩
set_option maxRecDepth 100000 in
theorem zq_160 : [zz_cw zt_hh zm_160, Cond.initialized zm_160.1.1.cls].map some = ([1485, 224] : List Nat).map (fun i => lw_tbl[i]?) := by rfl
set_option maxRecDepth 100000 in
theorem zg_160 : [zz_cw zt_hh zm_160, Cond.initialized zm_160.1.1.cls].all goodWord = true := by decide +kernel
set_option maxRecDepth 100000 in
theorem zb_160 : (plainName zm_160.1.1.cls && (decide (zm_160.1.1.cls ≠ "java/lang/invoke/MethodHandle" ∧ zm_160.1.1.cls ≠ "java/lang/invoke/VarHandle") && decide (zm_160.1.2.2.1 ≤ 40))) = true := by decide +kernel
theorem zo_160 : zz_okM zt_hh zp_P zt_cl zt_tf zt_fd zt_nf zt_T zt_N zm_160 := zz_w_okM zw_160 zb_160 (zz_places goodWord zq_160 zg_160)
set_option maxRecDepth 100000 in
theorem zd_161_0 : ∀ r ∈ zl_161_0, decode zm_161.1.2.1 r.1 = .ok (r.2.1, r.2.2.1) := by decide +kernel
set_option maxRecDepth 100000 in
theorem zq_161_0 : (zl_161_0.flatMap (zz_wr zt_hh zp_P zt_cl zm_161.1.1.cls)).map some = ([1203, 46, 1201, 1228, 1203, 46, 1201, 486, 1125, 1126, 1490, 1187, 44, 1185, 486, 1223, 1224, 1481, 1165, 43, 1163, 1145, 41, 1143, 1493, 90, 1491, 1459, 86, 1457] : List Nat).map (fun i => lw_tbl[i]?) := by rfl
set_option maxRecDepth 100000 in
theorem zg_161_0 : (zl_161_0.flatMap (zz_wr zt_hh zp_P zt_cl zm_161.1.1.cls)).all goodWord = true := by decide +kernel
set_option maxRecDepth 100000 in
theorem zr_161_0 : (zl_161_0.flatMap (zz_wn zp_P zm_161.1.1.cls)).map some = ([1262] : List Nat).map (fun i => lw_tbl[i]?) := by rfl
set_option maxRecDepth 100000 in
theorem zs_161_0 : (zl_161_0.flatMap (zz_wn zp_P zm_161.1.1.cls)).all zz_isN = true := by decide +kernel
set_option maxRecDepth 100000 in
theorem zb_161_0 : zl_161_0.all (fun r => zz_wb zt_hh zp_P zt_cl zt_tf zt_fd zt_nf zm_161.1.1.cls zm_161.1.1.name r) = true := by decide +kernel
set_option maxRecDepth 100000 in
theorem zd_161_1 : ∀ r ∈ zl_161_1, decode zm_161.1.2.1 r.1 = .ok (r.2.1, r.2.2.1) := by decide +kernel
set_option maxRecDepth 100000 in
theorem zq_161_1 : (zl_161_1.flatMap (zz_wr zt_hh zp_P zt_cl zm_161.1.1.cls)).map some = ([1210, 486, 1113, 1114, 1467, 486, 1210, 1463, 1464, 1462, 503, 503, 1259, 53, 1257] : List Nat).map (fun i => lw_tbl[i]?) := by rfl
set_option maxRecDepth 100000 in
theorem zg_161_1 : (zl_161_1.flatMap (zz_wr zt_hh zp_P zt_cl zm_161.1.1.cls)).all goodWord = true := by decide +kernel
set_option maxRecDepth 100000 in
theorem zr_161_1 : (zl_161_1.flatMap (zz_wn zp_P zm_161.1.1.cls)).map some = ([1261, 1261] : List Nat).map (fun i => lw_tbl[i]?) := by rfl
set_option maxRecDepth 100000 in
theorem zs_161_1 : (zl_161_1.flatMap (zz_wn zp_P zm_161.1.1.cls)).all zz_isN = true := by decide +kernel
set_option maxRecDepth 100000 in
theorem zb_161_1 : zl_161_1.all (fun r => zz_wb zt_hh zp_P zt_cl zt_tf zt_fd zt_nf zm_161.1.1.cls zm_161.1.1.name r) = true := by decide +kernel
set_option maxRecDepth 100000 in
theorem zy_161_0 : zl_161_0.all (fun r => zz_tb zt_hh zp_P zm_161 r) = true := by decide +kernel
set_option maxRecDepth 100000 in
theorem zy_161_1 : zl_161_1.all (fun r => zz_tb zt_hh zp_P zm_161 r) = true := by decide +kernel
theorem zw_161 : zz_okW zt_hh zp_P zt_cl zt_tf zt_fd zt_nf zt_T zt_N zm_161 := List.forall_mem_cons.mpr ⟨(zz_w_okL zd_161_0 zb_161_0 (zz_places goodWord zq_161_0 zg_161_0) (zz_places zz_isN zr_161_0 zs_161_0) zy_161_0), List.forall_mem_cons.mpr ⟨(zz_w_okL zd_161_1 zb_161_1 (zz_places goodWord zq_161_1 zg_161_1) (zz_places zz_isN zr_161_1 zs_161_1) zy_161_1), (fun _ h => absurd h List.not_mem_nil)⟩⟩
set_option maxRecDepth 100000 in
theorem zq_161 : [zz_cw zt_hh zm_161, Cond.initialized zm_161.1.1.cls].map some = ([1489, 224] : List Nat).map (fun i => lw_tbl[i]?) := by rfl
set_option maxRecDepth 100000 in
theorem zg_161 : [zz_cw zt_hh zm_161, Cond.initialized zm_161.1.1.cls].all goodWord = true := by decide +kernel
set_option maxRecDepth 100000 in
theorem zb_161 : (plainName zm_161.1.1.cls && (decide (zm_161.1.1.cls ≠ "java/lang/invoke/MethodHandle" ∧ zm_161.1.1.cls ≠ "java/lang/invoke/VarHandle") && decide (zm_161.1.2.2.1 ≤ 40))) = true := by decide +kernel
theorem zo_161 : zz_okM zt_hh zp_P zt_cl zt_tf zt_fd zt_nf zt_T zt_N zm_161 := zz_w_okM zw_161 zb_161 (zz_places goodWord zq_161 zg_161)
set_option maxRecDepth 100000 in
theorem zd_162_0 : ∀ r ∈ zl_162_0, decode zm_162.1.2.1 r.1 = .ok (r.2.1, r.2.2.1) := by decide +kernel
set_option maxRecDepth 100000 in
theorem zq_162_0 : (zl_162_0.flatMap (zz_wr zt_hh zp_P zt_cl zm_162.1.1.cls)).map some = ([1493, 90, 1491, 1493, 90, 1491, 1165, 43, 1163, 1228, 1088, 1165, 43, 1163, 503] : List Nat).map (fun i => lw_tbl[i]?) := by rfl
set_option maxRecDepth 100000 in
theorem zg_162_0 : (zl_162_0.flatMap (zz_wr zt_hh zp_P zt_cl zm_162.1.1.cls)).all goodWord = true := by decide +kernel
set_option maxRecDepth 100000 in
theorem zr_162_0 : (zl_162_0.flatMap (zz_wn zp_P zm_162.1.1.cls)).map some = ([1262, 1162] : List Nat).map (fun i => lw_tbl[i]?) := by rfl
set_option maxRecDepth 100000 in
theorem zs_162_0 : (zl_162_0.flatMap (zz_wn zp_P zm_162.1.1.cls)).all zz_isN = true := by decide +kernel
set_option maxRecDepth 100000 in
theorem zb_162_0 : zl_162_0.all (fun r => zz_wb zt_hh zp_P zt_cl zt_tf zt_fd zt_nf zm_162.1.1.cls zm_162.1.1.name r) = true := by decide +kernel
set_option maxRecDepth 100000 in
theorem zy_162_0 : zl_162_0.all (fun r => zz_tb zt_hh zp_P zm_162 r) = true := by decide +kernel
theorem zw_162 : zz_okW zt_hh zp_P zt_cl zt_tf zt_fd zt_nf zt_T zt_N zm_162 := List.forall_mem_cons.mpr ⟨(zz_w_okL zd_162_0 zb_162_0 (zz_places goodWord zq_162_0 zg_162_0) (zz_places zz_isN zr_162_0 zs_162_0) zy_162_0), (fun _ h => absurd h List.not_mem_nil)⟩
set_option maxRecDepth 100000 in
theorem zq_162 : [zz_cw zt_hh zm_162, Cond.initialized zm_162.1.1.cls].map some = ([1502, 224] : List Nat).map (fun i => lw_tbl[i]?) := by rfl
set_option maxRecDepth 100000 in
theorem zg_162 : [zz_cw zt_hh zm_162, Cond.initialized zm_162.1.1.cls].all goodWord = true := by decide +kernel
set_option maxRecDepth 100000 in
theorem zb_162 : (plainName zm_162.1.1.cls && (decide (zm_162.1.1.cls ≠ "java/lang/invoke/MethodHandle" ∧ zm_162.1.1.cls ≠ "java/lang/invoke/VarHandle") && decide (zm_162.1.2.2.1 ≤ 40))) = true := by decide +kernel
theorem zo_162 : zz_okM zt_hh zp_P zt_cl zt_tf zt_fd zt_nf zt_T zt_N zm_162 := zz_w_okM zw_162 zb_162 (zz_places goodWord zq_162 zg_162)
set_option maxRecDepth 100000 in
theorem zd_163_0 : ∀ r ∈ zl_163_0, decode zm_163.1.2.1 r.1 = .ok (r.2.1, r.2.2.1) := by decide +kernel
set_option maxRecDepth 100000 in
theorem zq_163_0 : (zl_163_0.flatMap (zz_wr zt_hh zp_P zt_cl zm_163.1.1.cls)).map some = ([1203, 46, 1201, 1228, 1203, 46, 1201, 486, 1125, 1126, 1490, 1187, 44, 1185, 1203, 46, 1201, 1165, 43, 1163, 486, 1223, 1224, 1481, 1165, 43, 1163, 1145, 41, 1143, 1493, 90, 1491] : List Nat).map (fun i => lw_tbl[i]?) := by rfl
set_option maxRecDepth 100000 in
theorem zg_163_0 : (zl_163_0.flatMap (zz_wr zt_hh zp_P zt_cl zm_163.1.1.cls)).all goodWord = true := by decide +kernel
set_option maxRecDepth 100000 in
theorem zr_163_0 : (zl_163_0.flatMap (zz_wn zp_P zm_163.1.1.cls)).map some = ([1262] : List Nat).map (fun i => lw_tbl[i]?) := by rfl
set_option maxRecDepth 100000 in
theorem zs_163_0 : (zl_163_0.flatMap (zz_wn zp_P zm_163.1.1.cls)).all zz_isN = true := by decide +kernel
set_option maxRecDepth 100000 in
theorem zb_163_0 : zl_163_0.all (fun r => zz_wb zt_hh zp_P zt_cl zt_tf zt_fd zt_nf zm_163.1.1.cls zm_163.1.1.name r) = true := by decide +kernel
set_option maxRecDepth 100000 in
theorem zd_163_1 : ∀ r ∈ zl_163_1, decode zm_163.1.2.1 r.1 = .ok (r.2.1, r.2.2.1) := by decide +kernel
set_option maxRecDepth 100000 in
theorem zq_163_1 : (zl_163_1.flatMap (zz_wr zt_hh zp_P zt_cl zm_163.1.1.cls)).map some = ([1493, 90, 1491, 503, 503] : List Nat).map (fun i => lw_tbl[i]?) := by rfl
set_option maxRecDepth 100000 in
theorem zg_163_1 : (zl_163_1.flatMap (zz_wr zt_hh zp_P zt_cl zm_163.1.1.cls)).all goodWord = true := by decide +kernel
set_option maxRecDepth 100000 in
theorem zr_163_1 : (zl_163_1.flatMap (zz_wn zp_P zm_163.1.1.cls)).map some = ([] : List Nat).map (fun i => lw_tbl[i]?) := by rfl
set_option maxRecDepth 100000 in
theorem zs_163_1 : (zl_163_1.flatMap (zz_wn zp_P zm_163.1.1.cls)).all zz_isN = true := by decide +kernel
set_option maxRecDepth 100000 in
theorem zb_163_1 : zl_163_1.all (fun r => zz_wb zt_hh zp_P zt_cl zt_tf zt_fd zt_nf zm_163.1.1.cls zm_163.1.1.name r) = true := by decide +kernel
set_option maxRecDepth 100000 in
theorem zy_163_0 : zl_163_0.all (fun r => zz_tb zt_hh zp_P zm_163 r) = true := by decide +kernel
set_option maxRecDepth 100000 in
theorem zy_163_1 : zl_163_1.all (fun r => zz_tb zt_hh zp_P zm_163 r) = true := by decide +kernel
theorem zw_163 : zz_okW zt_hh zp_P zt_cl zt_tf zt_fd zt_nf zt_T zt_N zm_163 := List.forall_mem_cons.mpr ⟨(zz_w_okL zd_163_0 zb_163_0 (zz_places goodWord zq_163_0 zg_163_0) (zz_places zz_isN zr_163_0 zs_163_0) zy_163_0), List.forall_mem_cons.mpr ⟨(zz_w_okL zd_163_1 zb_163_1 (zz_places goodWord zq_163_1 zg_163_1) (zz_places zz_isN zr_163_1 zs_163_1) zy_163_1), (fun _ h => absurd h List.not_mem_nil)⟩⟩
set_option maxRecDepth 100000 in
theorem zq_163 : [zz_cw zt_hh zm_163, Cond.initialized zm_163.1.1.cls].map some = ([1498, 224] : List Nat).map (fun i => lw_tbl[i]?) := by rfl
set_option maxRecDepth 100000 in
theorem zg_163 : [zz_cw zt_hh zm_163, Cond.initialized zm_163.1.1.cls].all goodWord = true := by decide +kernel
set_option maxRecDepth 100000 in
theorem zb_163 : (plainName zm_163.1.1.cls && (decide (zm_163.1.1.cls ≠ "java/lang/invoke/MethodHandle" ∧ zm_163.1.1.cls ≠ "java/lang/invoke/VarHandle") && decide (zm_163.1.2.2.1 ≤ 40))) = true := by decide +kernel
theorem zo_163 : zz_okM zt_hh zp_P zt_cl zt_tf zt_fd zt_nf zt_T zt_N zm_163 := zz_w_okM zw_163 zb_163 (zz_places goodWord zq_163 zg_163)
set_option maxRecDepth 100000 in
theorem zd_164_0 : ∀ r ∈ zl_164_0, decode zm_164.1.2.1 r.1 = .ok (r.2.1, r.2.2.1) := by decide +kernel
set_option maxRecDepth 100000 in
theorem zq_164_0 : (zl_164_0.flatMap (zz_wr zt_hh zp_P zt_cl zm_164.1.1.cls)).map some = ([1493, 90, 1491, 1493, 90, 1491, 1493, 90, 1491, 1493, 90, 1491, 1165, 43, 1163, 1165, 43, 1163, 1228, 1088, 1165, 43, 1163, 503] : List Nat).map (fun i => lw_tbl[i]?) := by rfl
set_option maxRecDepth 100000 in
theorem zg_164_0 : (zl_164_0.flatMap (zz_wr zt_hh zp_P zt_cl zm_164.1.1.cls)).all goodWord = true := by decide +kernel
set_option maxRecDepth 100000 in
theorem zr_164_0 : (zl_164_0.flatMap (zz_wn zp_P zm_164.1.1.cls)).map some = ([1262, 1162] : List Nat).map (fun i => lw_tbl[i]?) := by rfl
set_option maxRecDepth 100000 in
theorem zs_164_0 : (zl_164_0.flatMap (zz_wn zp_P zm_164.1.1.cls)).all zz_isN = true := by decide +kernel
set_option maxRecDepth 100000 in
theorem zb_164_0 : zl_164_0.all (fun r => zz_wb zt_hh zp_P zt_cl zt_tf zt_fd zt_nf zm_164.1.1.cls zm_164.1.1.name r) = true := by decide +kernel
set_option maxRecDepth 100000 in
theorem zy_164_0 : zl_164_0.all (fun r => zz_tb zt_hh zp_P zm_164 r) = true := by decide +kernel
theorem zw_164 : zz_okW zt_hh zp_P zt_cl zt_tf zt_fd zt_nf zt_T zt_N zm_164 := List.forall_mem_cons.mpr ⟨(zz_w_okL zd_164_0 zb_164_0 (zz_places goodWord zq_164_0 zg_164_0) (zz_places zz_isN zr_164_0 zs_164_0) zy_164_0), (fun _ h => absurd h List.not_mem_nil)⟩
set_option maxRecDepth 100000 in
theorem zq_164 : [zz_cw zt_hh zm_164, Cond.initialized zm_164.1.1.cls].map some = ([1506, 224] : List Nat).map (fun i => lw_tbl[i]?) := by rfl
set_option maxRecDepth 100000 in
theorem zg_164 : [zz_cw zt_hh zm_164, Cond.initialized zm_164.1.1.cls].all goodWord = true := by decide +kernel
set_option maxRecDepth 100000 in
theorem zb_164 : (plainName zm_164.1.1.cls && (decide (zm_164.1.1.cls ≠ "java/lang/invoke/MethodHandle" ∧ zm_164.1.1.cls ≠ "java/lang/invoke/VarHandle") && decide (zm_164.1.2.2.1 ≤ 40))) = true := by decide +kernel
theorem zo_164 : zz_okM zt_hh zp_P zt_cl zt_tf zt_fd zt_nf zt_T zt_N zm_164 := zz_w_okM zw_164 zb_164 (zz_places goodWord zq_164 zg_164)
set_option maxRecDepth 100000 in
theorem zd_165_0 : ∀ r ∈ zl_165_0, decode zm_165.1.2.1 r.1 = .ok (r.2.1, r.2.2.1) := by decide +kernel
set_option maxRecDepth 100000 in
theorem zq_165_0 : (zl_165_0.flatMap (zz_wr zt_hh zp_P zt_cl zm_165.1.1.cls)).map some = ([494, 493, 493, 494, 646, 1167, 493, 493, 494, 494, 494] : List Nat).map (fun i => lw_tbl[i]?) := by rfl
set_option maxRecDepth 100000 in
theorem zg_165_0 : (zl_165_0.flatMap (zz_wr zt_hh zp_P zt_cl zm_165.1.1.cls)).all goodWord = true := by decide +kernel
set_option maxRecDepth 100000 in
theorem zr_165_0 : (zl_165_0.flatMap (zz_wn zp_P zm_165.1.1.cls)).map some = ([] : List Nat).map (fun i => lw_tbl[i]?) := by rfl
set_option maxRecDepth 100000 in
theorem zs_165_0 : (zl_165_0.flatMap (zz_wn zp_P zm_165.1.1.cls)).all zz_isN = true := by decide +kernel
set_option maxRecDepth 100000 in
theorem zb_165_0 : zl_165_0.all (fun r => zz_wb zt_hh zp_P zt_cl zt_tf zt_fd zt_nf zm_165.1.1.cls zm_165.1.1.name r) = true := by decide +kernel
set_option maxRecDepth 100000 in
theorem zy_165_0 : zl_165_0.all (fun r => zz_tb zt_hh zp_P zm_165 r) = true := by decide +kernel
theorem zw_165 : zz_okW zt_hh zp_P zt_cl zt_tf zt_fd zt_nf zt_T zt_N zm_165 := List.forall_mem_cons.mpr ⟨(zz_w_okL zd_165_0 zb_165_0 (zz_places goodWord zq_165_0 zg_165_0) (zz_places zz_isN zr_165_0 zs_165_0) zy_165_0), (fun _ h => absurd h List.not_mem_nil)⟩
set_option maxRecDepth 100000 in
theorem zq_165 : [zz_cw zt_hh zm_165, Cond.initialized zm_165.1.1.cls].map some = ([1166, 224] : List Nat).map (fun i => lw_tbl[i]?) := by rfl
set_option maxRecDepth 100000 in
theorem zg_165 : [zz_cw zt_hh zm_165, Cond.initialized zm_165.1.1.cls].all goodWord = true := by decide +kernel
set_option maxRecDepth 100000 in
theorem zb_165 : (plainName zm_165.1.1.cls && (decide (zm_165.1.1.cls ≠ "java/lang/invoke/MethodHandle" ∧ zm_165.1.1.cls ≠ "java/lang/invoke/VarHandle") && decide (zm_165.1.2.2.1 ≤ 40))) = true := by decide +kernel
theorem zo_165 : zz_okM zt_hh zp_P zt_cl zt_tf zt_fd zt_nf zt_T zt_N zm_165 := zz_w_okM zw_165 zb_165 (zz_places goodWord zq_165 zg_165)
set_option maxRecDepth 100000 in
theorem zd_166_0 : ∀ r ∈ zl_166_0, decode zm_166.1.2.1 r.1 = .ok (r.2.1, r.2.2.1) := by decide +kernel
set_option maxRecDepth 100000 in
theorem zq_166_0 : (zl_166_0.flatMap (zz_wr zt_hh zp_P zt_cl zm_166.1.1.cls)).map some = ([1203, 46, 1201, 494, 1155, 701, 228, 702, 494] : List Nat).map (fun i => lw_tbl[i]?) := by rfl
set_option maxRecDepth 100000 in
theorem zg_166_0 : (zl_166_0.flatMap (zz_wr zt_hh zp_P zt_cl zm_166.1.1.cls)).all goodWord = true := by decide +kernel
set_option maxRecDepth 100000 in
theorem zr_166_0 : (zl_166_0.flatMap (zz_wn zp_P zm_166.1.1.cls)).map some = ([] : List Nat).map (fun i => lw_tbl[i]?) := by rfl
set_option maxRecDepth 100000 in
theorem zs_166_0 : (zl_166_0.flatMap (zz_wn zp_P zm_166.1.1.cls)).all zz_isN = true := by decide +kernel
set_option maxRecDepth 100000 in
theorem zb_166_0 : zl_166_0.all (fun r => zz_wb zt_hh zp_P zt_cl zt_tf zt_fd zt_nf zm_166.1.1.cls zm_166.1.1.name r) = true := by decide +kernel
set_option maxRecDepth 100000 in
theorem zy_166_0 : zl_166_0.all (fun r => zz_tb zt_hh zp_P zm_166 r) = true := by decide +kernel
theorem zw_166 : zz_okW zt_hh zp_P zt_cl zt_tf zt_fd zt_nf zt_T zt_N zm_166 := List.forall_mem_cons.mpr ⟨(zz_w_okL zd_166_0 zb_166_0 (zz_places goodWord zq_166_0 zg_166_0) (zz_places zz_isN zr_166_0 zs_166_0) zy_166_0), (fun _ h => absurd h List.not_mem_nil)⟩
set_option maxRecDepth 100000 in
theorem zq_166 : [zz_cw zt_hh zm_166, Cond.initialized zm_166.1.1.cls].map some = ([1494, 224] : List Nat).map (fun i => lw_tbl[i]?) := by rfl
set_option maxRecDepth 100000 in
theorem zg_166 : [zz_cw zt_hh zm_166, Cond.initialized zm_166.1.1.cls].all goodWord = true := by decide +kernel
set_option maxRecDepth 100000 in
theorem zb_166 : (plainName zm_166.1.1.cls && (decide (zm_166.1.1.cls ≠ "java/lang/invoke/MethodHandle" ∧ zm_166.1.1.cls ≠ "java/lang/invoke/VarHandle") && decide (zm_166.1.2.2.1 ≤ 40))) = true := by decide +kernel
theorem zo_166 : zz_okM zt_hh zp_P zt_cl zt_tf zt_fd zt_nf zt_T zt_N zm_166 := zz_w_okM zw_166 zb_166 (zz_places goodWord zq_166 zg_166)
set_option maxRecDepth 100000 in
theorem zd_167_0 : ∀ r ∈ zl_167_0, decode zm_167.1.2.1 r.1 = .ok (r.2.1, r.2.2.1) := by decide +kernel
set_option maxRecDepth 100000 in
theorem zq_167_0 : (zl_167_0.flatMap (zz_wr zt_hh zp_P zt_cl zm_167.1.1.cls)).map some = ([494, 493, 494, 1088] : List Nat).map (fun i => lw_tbl[i]?) := by rfl
set_option maxRecDepth 100000 in
theorem zg_167_0 : (zl_167_0.flatMap (zz_wr zt_hh zp_P zt_cl zm_167.1.1.cls)).all goodWord = true := by decide +kernel
set_option maxRecDepth 100000 in
theorem zr_167_0 : (zl_167_0.flatMap (zz_wn zp_P zm_167.1.1.cls)).map some = ([1162] : List Nat).map (fun i => lw_tbl[i]?) := by rfl
set_option maxRecDepth 100000 in
theorem zs_167_0 : (zl_167_0.flatMap (zz_wn zp_P zm_167.1.1.cls)).all zz_isN = true := by decide +kernel
set_option maxRecDepth 100000 in
theorem zb_167_0 : zl_167_0.all (fun r => zz_wb zt_hh zp_P zt_cl zt_tf zt_fd zt_nf zm_167.1.1.cls zm_167.1.1.name r) = true := by decide +kernel
set_option maxRecDepth 100000 in
theorem zy_167_0 : zl_167_0.all (fun r => zz_tb zt_hh zp_P zm_167 r) = true := by decide +kernel
theorem zw_167 : zz_okW zt_hh zp_P zt_cl zt_tf zt_fd zt_nf zt_T zt_N zm_167 := List.forall_mem_cons.mpr ⟨(zz_w_okL zd_167_0 zb_167_0 (zz_places goodWord zq_167_0 zg_167_0) (zz_places zz_isN zr_167_0 zs_167_0) zy_167_0), (fun _ h => absurd h List.not_mem_nil)⟩
set_option maxRecDepth 100000 in
theorem zq_167 : [zz_cw zt_hh zm_167, Cond.initialized zm_167.1.1.cls].map some = ([1204, 224] : List Nat).map (fun i => lw_tbl[i]?) := by rfl
set_option maxRecDepth 100000 in
theorem zg_167 : [zz_cw zt_hh zm_167, Cond.initialized zm_167.1.1.cls].all goodWord = true := by decide +kernel
set_option maxRecDepth 100000 in
theorem zb_167 : (plainName zm_167.1.1.cls && (decide (zm_167.1.1.cls ≠ "java/lang/invoke/MethodHandle" ∧ zm_167.1.1.cls ≠ "java/lang/invoke/VarHandle") && decide (zm_167.1.2.2.1 ≤ 40))) = true := by decide +kernel
theorem zo_167 : zz_okM zt_hh zp_P zt_cl zt_tf zt_fd zt_nf zt_T zt_N zm_167 := zz_w_okM zw_167 zb_167 (zz_places goodWord zq_167 zg_167)
set_option maxRecDepth 100000 in
theorem zd_168_0 : ∀ r ∈ zl_168_0, decode zm_168.1.2.1 r.1 = .ok (r.2.1, r.2.2.1) := by decide +kernel
set_option maxRecDepth 100000 in
theorem zq_168_0 : (zl_168_0.flatMap (zz_wr zt_hh zp_P zt_cl zm_168.1.1.cls)).map some = ([410] : List Nat).map (fun i => lw_tbl[i]?) := by rfl
set_option maxRecDepth 100000 in
theorem zg_168_0 : (zl_168_0.flatMap (zz_wr zt_hh zp_P zt_cl zm_168.1.1.cls)).all goodWord = true := by decide +kernel
set_option maxRecDepth 100000 in
theorem zr_168_0 : (zl_168_0.flatMap (zz_wn zp_P zm_168.1.1.cls)).map some = ([] : List Nat).map (fun i => lw_tbl[i]?) := by rfl
set_option maxRecDepth 100000 in
theorem zs_168_0 : (zl_168_0.flatMap (zz_wn zp_P zm_168.1.1.cls)).all zz_isN = true := by decide +kernel
set_option maxRecDepth 100000 in
theorem zb_168_0 : zl_168_0.all (fun r => zz_wb zt_hh zp_P zt_cl zt_tf zt_fd zt_nf zm_168.1.1.cls zm_168.1.1.name r) = true := by decide +kernel
set_option maxRecDepth 100000 in
theorem zy_168_0 : zl_168_0.all (fun r => zz_tb zt_hh zp_P zm_168 r) = true := by decide +kernel
theorem zw_168 : zz_okW zt_hh zp_P zt_cl zt_tf zt_fd zt_nf zt_T zt_N zm_168 := List.forall_mem_cons.mpr ⟨(zz_w_okL zd_168_0 zb_168_0 (zz_places goodWord zq_168_0 zg_168_0) (zz_places zz_isN zr_168_0 zs_168_0) zy_168_0), (fun _ h => absurd h List.not_mem_nil)⟩
set_option maxRecDepth 100000 in
theorem zq_168 : [zz_cw zt_hh zm_168, Cond.initialized zm_168.1.1.cls].map some = ([1070, 222] : List Nat).map (fun i => lw_tbl[i]?) := by rfl
set_option maxRecDepth 100000 in
theorem zg_168 : [zz_cw zt_hh zm_168, Cond.initialized zm_168.1.1.cls].all goodWord = true := by decide +kernel
set_option maxRecDepth 100000 in
theorem zb_168 : (plainName zm_168.1.1.cls && (decide (zm_168.1.1.cls ≠ "java/lang/invoke/MethodHandle" ∧ zm_168.1.1.cls ≠ "java/lang/invoke/VarHandle") && decide (zm_168.1.2.2.1 ≤ 40))) = true := by decide +kernel
theorem zo_168 : zz_okM zt_hh zp_P zt_cl zt_tf zt_fd zt_nf zt_T zt_N zm_168 := zz_w_okM zw_168 zb_168 (zz_places goodWord zq_168 zg_168)
set_option maxRecDepth 100000 in
theorem zd_169_0 : ∀ r ∈ zl_169_0, decode zm_169.1.2.1 r.1 = .ok (r.2.1, r.2.2.1) := by decide +kernel
set_option maxRecDepth 100000 in
theorem zq_169_0 : (zl_169_0.flatMap (zz_wr zt_hh zp_P zt_cl zm_169.1.1.cls)).map some = ([1542, 101, 1540] : List Nat).map (fun i => lw_tbl[i]?) := by rfl
set_option maxRecDepth 100000 in
theorem zg_169_0 : (zl_169_0.flatMap (zz_wr zt_hh zp_P zt_cl zm_169.1.1.cls)).all goodWord = true := by decide +kernel
set_option maxRecDepth 100000 in
theorem zr_169_0 : (zl_169_0.flatMap (zz_wn zp_P zm_169.1.1.cls)).map some = ([] : List Nat).map (fun i => lw_tbl[i]?) := by rfl
set_option maxRecDepth 100000 in
theorem zs_169_0 : (zl_169_0.flatMap (zz_wn zp_P zm_169.1.1.cls)).all zz_isN = true := by decide +kernel
set_option maxRecDepth 100000 in
theorem zb_169_0 : zl_169_0.all (fun r => zz_wb zt_hh zp_P zt_cl zt_tf zt_fd zt_nf zm_169.1.1.cls zm_169.1.1.name r) = true := by decide +kernel
set_option maxRecDepth 100000 in
theorem zy_169_0 : zl_169_0.all (fun r => zz_tb zt_hh zp_P zm_169 r) = true := by decide +kernel
theorem zw_169 : zz_okW zt_hh zp_P zt_cl zt_tf zt_fd zt_nf zt_T zt_N zm_169 := List.forall_mem_cons.mpr ⟨(zz_w_okL zd_169_0 zb_169_0 (zz_places goodWord zq_169_0 zg_169_0) (zz_places zz_isN zr_169_0 zs_169_0) zy_169_0), (fun _ h => absurd h List.not_mem_nil)⟩
set_option maxRecDepth 100000 in
theorem zq_169 : [zz_cw zt_hh zm_169, Cond.initialized zm_169.1.1.cls].map some = ([1539, 222] : List Nat).map (fun i => lw_tbl[i]?) := by rfl
set_option maxRecDepth 100000 in
theorem zg_169 : [zz_cw zt_hh zm_169, Cond.initialized zm_169.1.1.cls].all goodWord = true := by decide +kernel
set_option maxRecDepth 100000 in
theorem zb_169 : (plainName zm_169.1.1.cls && (decide (zm_169.1.1.cls ≠ "java/lang/invoke/MethodHandle" ∧ zm_169.1.1.cls ≠ "java/lang/invoke/VarHandle") && decide (zm_169.1.2.2.1 ≤ 40))) = true := by decide +kernel
theorem zo_169 : zz_okM zt_hh zp_P zt_cl zt_tf zt_fd zt_nf zt_T zt_N zm_169 := zz_w_okM zw_169 zb_169 (zz_places goodWord zq_169 zg_169)
set_option maxRecDepth 100000 in
theorem zd_170_0 : ∀ r ∈ zl_170_0, decode zm_170.1.2.1 r.1 = .ok (r.2.1, r.2.2.1) := by decide +kernel
set_option maxRecDepth 100000 in
theorem zq_170_0 : (zl_170_0.flatMap (zz_wr zt_hh zp_P zt_cl zm_170.1.1.cls)).map some = ([1210, 1228, 1548, 102, 1546, 1125, 1126, 1559, 1551, 1552, 1550] : List Nat).map (fun i => lw_tbl[i]?) := by rfl
set_option maxRecDepth 100000 in
theorem zg_170_0 : (zl_170_0.flatMap (zz_wr zt_hh zp_P zt_cl zm_170.1.1.cls)).all goodWord = true := by decide +kernel
set_option maxRecDepth 100000 in
theorem zr_170_0 : (zl_170_0.flatMap (zz_wn zp_P zm_170.1.1.cls)).map some = ([1544, 1545] : List Nat).map (fun i => lw_tbl[i]?) := by rfl
set_option maxRecDepth 100000 in
theorem zs_170_0 : (zl_170_0.flatMap (zz_wn zp_P zm_170.1.1.cls)).all zz_isN = true := by decide +kernel
set_option maxRecDepth 100000 in
theorem zb_170_0 : zl_170_0.all (fun r => zz_wb zt_hh zp_P zt_cl zt_tf zt_fd zt_nf zm_170.1.1.cls zm_170.1.1.name r) = true := by decide +kernel
set_option maxRecDepth 100000 in
theorem zd_170_1 : ∀ r ∈ zl_170_1, decode zm_170.1.2.1 r.1 = .ok (r.2.1, r.2.2.1) := by decide +kernel
set_option maxRecDepth 100000 in
theorem zq_170_1 : (zl_170_1.flatMap (zz_wr zt_hh zp_P zt_cl zm_170.1.1.cls)).map some = ([1551, 1552, 1550, 1223, 1224, 1560, 1542, 101, 1540, 1551, 1552, 1550] : List Nat).map (fun i => lw_tbl[i]?) := by rfl
set_option maxRecDepth 100000 in
theorem zg_170_1 : (zl_170_1.flatMap (zz_wr zt_hh zp_P zt_cl zm_170.1.1.cls)).all goodWord = true := by decide +kernel
set_option maxRecDepth 100000 in
theorem zr_170_1 : (zl_170_1.flatMap (zz_wn zp_P zm_170.1.1.cls)).map some = ([] : List Nat).map (fun i => lw_tbl[i]?) := by rfl
set_option maxRecDepth 100000 in
theorem zs_170_1 : (zl_170_1.flatMap (zz_wn zp_P zm_170.1.1.cls)).all zz_isN = true := by decide +kernel
set_option maxRecDepth 100000 in
theorem zb_170_1 : zl_170_1.all (fun r => zz_wb zt_hh zp_P zt_cl zt_tf zt_fd zt_nf zm_170.1.1.cls zm_170.1.1.name r) = true := by decide +kernel
set_option maxRecDepth 100000 in
theorem zy_170_0 : zl_170_0.all (fun r => zz_tb zt_hh zp_P zm_170 r) = true := by decide +kernel
set_option maxRecDepth 100000 in
theorem zy_170_1 : zl_170_1.all (fun r => zz_tb zt_hh zp_P zm_170 r) = true := by decide +kernel
theorem zw_170 : zz_okW zt_hh zp_P zt_cl zt_tf zt_fd zt_nf zt_T zt_N zm_170 := List.forall_mem_cons.mpr ⟨(zz_w_okL zd_170_0 zb_170_0 (zz_places goodWord zq_170_0 zg_170_0) (zz_places zz_isN zr_170_0 zs_170_0) zy_170_0), List.forall_mem_cons.mpr ⟨(zz_w_okL zd_170_1 zb_170_1 (zz_places goodWord zq_170_1 zg_170_1) (zz_places zz_isN zr_170_1 zs_170_1) zy_170_1), (fun _ h => absurd h List.not_mem_nil)⟩⟩
set_option maxRecDepth 100000 in
theorem zq_170 : [zz_cw zt_hh zm_170, Cond.initialized zm_170.1.1.cls].map some = ([1543, 222] : List Nat).map (fun i => lw_tbl[i]?) := by rfl
set_option maxRecDepth 100000 in
theorem zg_170 : [zz_cw zt_hh zm_170, Cond.initialized zm_170.1.1.cls].all goodWord = true := by decide +kernel
set_option maxRecDepth 100000 in
theorem zb_170 : (plainName zm_170.1.1.cls && (decide (zm_170.1.1.cls ≠ "java/lang/invoke/MethodHandle" ∧ zm_170.1.1.cls ≠ "java/lang/invoke/VarHandle") && decide (zm_170.1.2.2.1 ≤ 40))) = true := by decide +kernel
theorem zo_170 : zz_okM zt_hh zp_P zt_cl zt_tf zt_fd zt_nf zt_T zt_N zm_170 := zz_w_okM zw_170 zb_170 (zz_places goodWord zq_170 zg_170)
set_option maxRecDepth 100000 in
theorem zd_171_0 : ∀ r ∈ zl_171_0, decode zm_171.1.2.1 r.1 = .ok (r.2.1, r.2.2.1) := by decide +kernel
set_option maxRecDepth 100000 in
theorem zq_171_0 : (zl_171_0.flatMap (zz_wr zt_hh zp_P zt_cl zm_171.1.1.cls)).map some = ([410, 410, 409, 409, 410, 1554, 592, 228, 593, 595, 1555, 409, 409, 410, 410, 410] : List Nat).map (fun i => lw_tbl[i]?) := by rfl
set_option maxRecDepth 100000 in
theorem zg_171_0 : (zl_171_0.flatMap (zz_wr zt_hh zp_P zt_cl zm_171.1.1.cls)).all goodWord = true := by decide +kernel
set_option maxRecDepth 100000 in
theorem zr_171_0 : (zl_171_0.flatMap (zz_wn zp_P zm_171.1.1.cls)).map some = ([] : List Nat).map (fun i => lw_tbl[i]?) := by rfl
set_option maxRecDepth 100000 in
theorem zs_171_0 : (zl_171_0.flatMap (zz_wn zp_P zm_171.1.1.cls)).all zz_isN = true := by decide +kernel
set_option maxRecDepth 100000 in
theorem zb_171_0 : zl_171_0.all (fun r => zz_wb zt_hh zp_P zt_cl zt_tf zt_fd zt_nf zm_171.1.1.cls zm_171.1.1.name r) = true := by decide +kernel
set_option maxRecDepth 100000 in
theorem zy_171_0 : zl_171_0.all (fun r => zz_tb zt_hh zp_P zm_171 r) = true := by decide +kernel
theorem zw_171 : zz_okW zt_hh zp_P zt_cl zt_tf zt_fd zt_nf zt_T zt_N zm_171 := List.forall_mem_cons.mpr ⟨(zz_w_okL zd_171_0 zb_171_0 (zz_places goodWord zq_171_0 zg_171_0) (zz_places zz_isN zr_171_0 zs_171_0) zy_171_0), (fun _ h => absurd h List.not_mem_nil)⟩
set_option maxRecDepth 100000 in
theorem zq_171 : [zz_cw zt_hh zm_171, Cond.initialized zm_171.1.1.cls].map some = ([1553, 222] : List Nat).map (fun i => lw_tbl[i]?) := by rfl
set_option maxRecDepth 100000 in
theorem zg_171 : [zz_cw zt_hh zm_171, Cond.initialized zm_171.1.1.cls].all goodWord = true := by decide +kernel
set_option maxRecDepth 100000 in
theorem zb_171 : (plainName zm_171.1.1.cls && (decide (zm_171.1.1.cls ≠ "java/lang/invoke/MethodHandle" ∧ zm_171.1.1.cls ≠ "java/lang/invoke/VarHandle") && decide (zm_171.1.2.2.1 ≤ 40))) = true := by decide +kernel
theorem zo_171 : zz_okM zt_hh zp_P zt_cl zt_tf zt_fd zt_nf zt_T zt_N zm_171 := zz_w_okM zw_171 zb_171 (zz_places goodWord zq_171 zg_171)
set_option maxRecDepth 100000 in
theorem zd_172_0 : ∀ r ∈ zl_172_0, decode zm_172.1.2.1 r.1 = .ok (r.2.1, r.2.2.1) := by decide +kernel
set_option maxRecDepth 100000 in
theorem zq_172_0 : (zl_172_0.flatMap (zz_wr zt_hh zp_P zt_cl zm_172.1.1.cls)).map some = ([1551, 1552, 1550, 1556, 1397, 228, 1398, 411, 1557, 1558, 1558] : List Nat).map (fun i => lw_tbl[i]?) := by rfl
set_option maxRecDepth 100000 in
theorem zg_172_0 : (zl_172_0.flatMap (zz_wr zt_hh zp_P zt_cl zm_172.1.1.cls)).all goodWord = true := by decide +kernel
set_option maxRecDepth 100000 in
theorem zr_172_0 : (zl_172_0.flatMap (zz_wn zp_P zm_172.1.1.cls)).map some = ([] : List Nat).map (fun i => lw_tbl[i]?) := by rfl
set_option maxRecDepth 100000 in
theorem zs_172_0 : (zl_172_0.flatMap (zz_wn zp_P zm_172.1.1.cls)).all zz_isN = true := by decide +kernel
set_option maxRecDepth 100000 in
theorem zb_172_0 : zl_172_0.all (fun r => zz_wb zt_hh zp_P zt_cl zt_tf zt_fd zt_nf zm_172.1.1.cls zm_172.1.1.name r) = true := by decide +kernel
set_option maxRecDepth 100000 in
theorem zd_172_1 : ∀ r ∈ zl_172_1, decode zm_172.1.2.1 r.1 = .ok (r.2.1, r.2.2.1) := by decide +kernel
set_option maxRecDepth 100000 in
theorem zq_172_1 : (zl_172_1.flatMap (zz_wr zt_hh zp_P zt_cl zm_172.1.1.cls)).map some = ([411, 1551, 1552, 1550] : List Nat).map (fun i => lw_tbl[i]?) := by rfl
set_option maxRecDepth 100000 in
theorem zg_172_1 : (zl_172_1.flatMap (zz_wr zt_hh zp_P zt_cl zm_172.1.1.cls)).all goodWord = true := by decide +kernel
set_option maxRecDepth 100000 in
theorem zr_172_1 : (zl_172_1.flatMap (zz_wn zp_P zm_172.1.1.cls)).map some = ([] : List Nat).map (fun i => lw_tbl[i]?) := by rfl
set_option maxRecDepth 100000 in
theorem zs_172_1 : (zl_172_1.flatMap (zz_wn zp_P zm_172.1.1.cls)).all zz_isN = true := by decide +kernel
set_option maxRecDepth 100000 in
theorem zb_172_1 : zl_172_1.all (fun r => zz_wb zt_hh zp_P zt_cl zt_tf zt_fd zt_nf zm_172.1.1.cls zm_172.1.1.name r) = true := by decide +kernel
set_option maxRecDepth 100000 in
theorem zy_172_0 : zl_172_0.all (fun r => zz_tb zt_hh zp_P zm_172 r) = true := by decide +kernel
set_option maxRecDepth 100000 in
theorem zy_172_1 : zl_172_1.all (fun r => zz_tb zt_hh zp_P zm_172 r) = true := by decide +kernel
theorem zw_172 : zz_okW zt_hh zp_P zt_cl zt_tf zt_fd zt_nf zt_T zt_N zm_172 := List.forall_mem_cons.mpr ⟨(zz_w_okL zd_172_0 zb_172_0 (zz_places goodWord zq_172_0 zg_172_0) (zz_places zz_isN zr_172_0 zs_172_0) zy_172_0), List.forall_mem_cons.mpr ⟨(zz_w_okL zd_172_1 zb_172_1 (zz_places goodWord zq_172_1 zg_172_1) (zz_places zz_isN zr_172_1 zs_172_1) zy_172_1), (fun _ h => absurd h List.not_mem_nil)⟩⟩
set_option maxRecDepth 100000 in
theorem zq_172 : [zz_cw zt_hh zm_172, Cond.initialized zm_172.1.1.cls].map some = ([1549, 222] : List Nat).map (fun i => lw_tbl[i]?) := by rfl
set_option maxRecDepth 100000 in
theorem zg_172 : [zz_cw zt_hh zm_172, Cond.initialized zm_172.1.1.cls].all goodWord = true := by decide +kernel
set_option maxRecDepth 100000 in
theorem zb_172 : (plainName zm_172.1.1.cls && (decide (zm_172.1.1.cls ≠ "java/lang/invoke/MethodHandle" ∧ zm_172.1.1.cls ≠ "java/lang/invoke/VarHandle") && decide (zm_172.1.2.2.1 ≤ 40))) = true := by decide +kernel
theorem zo_172 : zz_okM zt_hh zp_P zt_cl zt_tf zt_fd zt_nf zt_T zt_N zm_172 := zz_w_okM zw_172 zb_172 (zz_places goodWord zq_172 zg_172)
set_option maxRecDepth 100000 in
theorem zd_173_0 : ∀ r ∈ zl_173_0, decode zm_173.1.2.1 r.1 = .ok (r.2.1, r.2.2.1) := by decide +kernel
set_option maxRecDepth 100000 in
theorem zq_173_0 : (zl_173_0.flatMap (zz_wr zt_hh zp_P zt_cl zm_173.1.1.cls)).map some = ([777, 781, 6, 779, 870, 10, 868, 890, 11, 888, 295, 291, 770, 771, 769, 894, 12, 892, 291, 766, 767, 765, 291, 770, 771, 769, 291, 758, 759, 867, 894, 12, 892, 890, 11, 888] : List Nat).map (fun i => lw_tbl[i]?) := by rfl
set_option maxRecDepth 100000 in
theorem zg_173_0 : (zl_173_0.flatMap (zz_wr zt_hh zp_P zt_cl zm_173.1.1.cls)).all goodWord = true := by decide +kernel
set_option maxRecDepth 100000 in
theorem zr_173_0 : (zl_173_0.flatMap (zz_wn zp_P zm_173.1.1.cls)).map some = ([] : List Nat).map (fun i => lw_tbl[i]?) := by rfl
set_option maxRecDepth 100000 in
theorem zs_173_0 : (zl_173_0.flatMap (zz_wn zp_P zm_173.1.1.cls)).all zz_isN = true := by decide +kernel
set_option maxRecDepth 100000 in
theorem zb_173_0 : zl_173_0.all (fun r => zz_wb zt_hh zp_P zt_cl zt_tf zt_fd zt_nf zm_173.1.1.cls zm_173.1.1.name r) = true := by decide +kernel
set_option maxRecDepth 100000 in
theorem zd_173_1 : ∀ r ∈ zl_173_1, decode zm_173.1.2.1 r.1 = .ok (r.2.1, r.2.2.1) := by decide +kernel
set_option maxRecDepth 100000 in
theorem zq_173_1 : (zl_173_1.flatMap (zz_wr zt_hh zp_P zt_cl zm_173.1.1.cls)).map some = ([292, 295, 901, 902, 900, 906, 14, 904, 292, 295, 1031, 1032, 1030, 292, 913, 914, 912, 292, 913, 914, 912] : List Nat).map (fun i => lw_tbl[i]?) := by rfl
set_option maxRecDepth 100000 in
theorem zg_173_1 : (zl_173_1.flatMap (zz_wr zt_hh zp_P zt_cl zm_173.1.1.cls)).all goodWord = true := by decide +kernel
set_option maxRecDepth 100000 in
theorem zr_173_1 : (zl_173_1.flatMap (zz_wn zp_P zm_173.1.1.cls)).map some = ([] : List Nat).map (fun i => lw_tbl[i]?) := by rfl
set_option maxRecDepth 100000 in
theorem zs_173_1 : (zl_173_1.flatMap (zz_wn zp_P zm_173.1.1.cls)).all zz_isN = true := by decide +kernel
set_option maxRecDepth 100000 in
theorem zb_173_1 : zl_173_1.all (fun r => zz_wb zt_hh zp_P zt_cl zt_tf zt_fd zt_nf zm_173.1.1.cls zm_173.1.1.name r) = true := by decide +kernel
set_option maxRecDepth 100000 in
theorem zy_173_0 : zl_173_0.all (fun r => zz_tb zt_hh zp_P zm_173 r) = true := by decide +kernel
set_option maxRecDepth 100000 in
theorem zy_173_1 : zl_173_1.all (fun r => zz_tb zt_hh zp_P zm_173 r) = true := by decide +kernel
theorem zw_173 : zz_okW zt_hh zp_P zt_cl zt_tf zt_fd zt_nf zt_T zt_N zm_173 := List.forall_mem_cons.mpr ⟨(zz_w_okL zd_173_0 zb_173_0 (zz_places goodWord zq_173_0 zg_173_0) (zz_places zz_isN zr_173_0 zs_173_0) zy_173_0), List.forall_mem_cons.mpr ⟨(zz_w_okL zd_173_1 zb_173_1 (zz_places goodWord zq_173_1 zg_173_1) (zz_places zz_isN zr_173_1 zs_173_1) zy_173_1), (fun _ h => absurd h List.not_mem_nil)⟩⟩
set_option maxRecDepth 100000 in
theorem zq_173 : [zz_cw zt_hh zm_173, Cond.initialized zm_173.1.1.cls].map some = ([776, 217] : List Nat).map (fun i => lw_tbl[i]?) := by rfl
set_option maxRecDepth 100000 in
theorem zg_173 : [zz_cw zt_hh zm_173, Cond.initialized zm_173.1.1.cls].all goodWord = true := by decide +kernel
set_option maxRecDepth 100000 in
theorem zb_173 : (plainName zm_173.1.1.cls && (decide (zm_173.1.1.cls ≠ "java/lang/invoke/MethodHandle" ∧ zm_173.1.1.cls ≠ "java/lang/invoke/VarHandle") && decide (zm_173.1.2.2.1 ≤ 40))) = true := by decide +kernel
theorem zo_173 : zz_okM zt_hh zp_P zt_cl zt_tf zt_fd zt_nf zt_T zt_N zm_173 := zz_w_okM zw_173 zb_173 (zz_places goodWord zq_173 zg_173)
set_option maxRecDepth 100000 in
theorem zd_174_0 : ∀ r ∈ zl_174_0, decode zm_174.1.2.1 r.1 = .ok (r.2.1, r.2.2.1) := by decide +kernel
set_option maxRecDepth 100000 in
theorem zq_174_0 : (zl_174_0.flatMap (zz_wr zt_hh zp_P zt_cl zm_174.1.1.cls)).map some = ([291, 770, 771, 769, 797, 8, 795, 291, 788, 789, 787, 292, 873, 874, 872, 797, 8, 795, 877, 876, 292, 881, 882, 880] : List Nat).map (fun i => lw_tbl[i]?) := by rfl
set_option maxRecDepth 100000 in
theorem zg_174_0 : (zl_174_0.flatMap (zz_wr zt_hh zp_P zt_cl zm_174.1.1.cls)).all goodWord = true := by decide +kernel
set_option maxRecDepth 100000 in
theorem zr_174_0 : (zl_174_0.flatMap (zz_wn zp_P zm_174.1.1.cls)).map some = ([] : List Nat).map (fun i => lw_tbl[i]?) := by rfl
set_option maxRecDepth 100000 in
theorem zs_174_0 : (zl_174_0.flatMap (zz_wn zp_P zm_174.1.1.cls)).all zz_isN = true := by decide +kernel
set_option maxRecDepth 100000 in
theorem zb_174_0 : zl_174_0.all (fun r => zz_wb zt_hh zp_P zt_cl zt_tf zt_fd zt_nf zm_174.1.1.cls zm_174.1.1.name r) = true := by decide +kernel
set_option maxRecDepth 100000 in
theorem zd_174_1 : ∀ r ∈ zl_174_1, decode zm_174.1.2.1 r.1 = .ok (r.2.1, r.2.2.1) := by decide +kernel
set_option maxRecDepth 100000 in
theorem zq_174_1 : (zl_174_1.flatMap (zz_wr zt_hh zp_P zt_cl zm_174.1.1.cls)).map some = ([797, 8, 795, 292, 291, 800, 801, 799, 885, 886, 884, 291, 758, 759, 867] : List Nat).map (fun i => lw_tbl[i]?) := by rfl
set_option maxRecDepth 100000 in
theorem zg_174_1 : (zl_174_1.flatMap (zz_wr zt_hh zp_P zt_cl zm_174.1.1.cls)).all goodWord = true := by decide +kernel
set_option maxRecDepth 100000 in
theorem zr_174_1 : (zl_174_1.flatMap (zz_wn zp_P zm_174.1.1.cls)).map some = ([] : List Nat).map (fun i => lw_tbl[i]?) := by rfl
set_option maxRecDepth 100000 in
theorem zs_174_1 : (zl_174_1.flatMap (zz_wn zp_P zm_174.1.1.cls)).all zz_isN = true := by decide +kernel
set_option maxRecDepth 100000 in
theorem zb_174_1 : zl_174_1.all (fun r => zz_wb zt_hh zp_P zt_cl zt_tf zt_fd zt_nf zm_174.1.1.cls zm_174.1.1.name r) = true := by decide +kernel
set_option maxRecDepth 100000 in
theorem zy_174_0 : zl_174_0.all (fun r => zz_tb zt_hh zp_P zm_174 r) = true := by decide +kernel
set_option maxRecDepth 100000 in
theorem zy_174_1 : zl_174_1.all (fun r => zz_tb zt_hh zp_P zm_174 r) = true := by decide +kernel
theorem zw_174 : zz_okW zt_hh zp_P zt_cl zt_tf zt_fd zt_nf zt_T zt_N zm_174 := List.forall_mem_cons.mpr ⟨(zz_w_okL zd_174_0 zb_174_0 (zz_places goodWord zq_174_0 zg_174_0) (zz_places zz_isN zr_174_0 zs_174_0) zy_174_0), List.forall_mem_cons.mpr ⟨(zz_w_okL zd_174_1 zb_174_1 (zz_places goodWord zq_174_1 zg_174_1) (zz_places zz_isN zr_174_1 zs_174_1) zy_174_1), (fun _ h => absurd h List.not_mem_nil)⟩⟩
set_option maxRecDepth 100000 in
theorem zq_174 : [zz_cw zt_hh zm_174, Cond.initialized zm_174.1.1.cls].map some = ([871, 217] : List Nat).map (fun i => lw_tbl[i]?) := by rfl
set_option maxRecDepth 100000 in
theorem zg_174 : [zz_cw zt_hh zm_174, Cond.initialized zm_174.1.1.cls].all goodWord = true := by decide +kernel
set_option maxRecDepth 100000 in
theorem zb_174 : (plainName zm_174.1.1.cls && (decide (zm_174.1.1.cls ≠ "java/lang/invoke/MethodHandle" ∧ zm_174.1.1.cls ≠ "java/lang/invoke/VarHandle") && decide (zm_174.1.2.2.1 ≤ 40))) = true := by decide +kernel
theorem zo_174 : zz_okM zt_hh zp_P zt_cl zt_tf zt_fd zt_nf zt_T zt_N zm_174 := zz_w_okM zw_174 zb_174 (zz_places goodWord zq_174 zg_174)
set_option maxRecDepth 100000 in
theorem zd_175_0 : ∀ r ∈ zl_175_0, decode zm_175.1.2.1 r.1 = .ok (r.2.1, r.2.2.1) := by decide +kernel
set_option maxRecDepth 100000 in
theorem zq_175_0 : (zl_175_0.flatMap (zz_wr zt_hh zp_P zt_cl zm_175.1.1.cls)).map some = ([291, 770, 771, 769, 797, 8, 795, 291, 788, 789, 787, 295, 797, 8, 795, 877, 876, 898, 13, 896, 797, 8, 795] : List Nat).map (fun i => lw_tbl[i]?) := by rfl
set_option maxRecDepth 100000 in
theorem zg_175_0 : (zl_175_0.flatMap (zz_wr zt_hh zp_P zt_cl zm_175.1.1.cls)).all goodWord = true := by decide +kernel
set_option maxRecDepth 100000 in
theorem zr_175_0 : (zl_175_0.flatMap (zz_wn zp_P zm_175.1.1.cls)).map some = ([] : List Nat).map (fun i => lw_tbl[i]?) := by rfl
set_option maxRecDepth 100000 in
theorem zs_175_0 : (zl_175_0.flatMap (zz_wn zp_P zm_175.1.1.cls)).all zz_isN = true := by decide +kernel
set_option maxRecDepth 100000 in
theorem zb_175_0 : zl_175_0.all (fun r => zz_wb zt_hh zp_P zt_cl zt_tf zt_fd zt_nf zm_175.1.1.cls zm_175.1.1.name r) = true := by decide +kernel
set_option maxRecDepth 100000 in
theorem zd_175_1 : ∀ r ∈ zl_175_1, decode zm_175.1.2.1 r.1 = .ok (r.2.1, r.2.2.1) := by decide +kernel
set_option maxRecDepth 100000 in
theorem zq_175_1 : (zl_175_1.flatMap (zz_wr zt_hh zp_P zt_cl zm_175.1.1.cls)).map some = ([294, 295, 295, 295, 291, 758, 759, 867] : List Nat).map (fun i => lw_tbl[i]?) := by rfl
set_option maxRecDepth 100000 in
theorem zg_175_1 : (zl_175_1.flatMap (zz_wr zt_hh zp_P zt_cl zm_175.1.1.cls)).all goodWord = true := by decide +kernel
set_option maxRecDepth 100000 in
theorem zr_175_1 : (zl_175_1.flatMap (zz_wn zp_P zm_175.1.1.cls)).map some = ([] : List Nat).map (fun i => lw_tbl[i]?) := by rfl
set_option maxRecDepth 100000 in
theorem zs_175_1 : (zl_175_1.flatMap (zz_wn zp_P zm_175.1.1.cls)).all zz_isN = true := by decide +kernel
set_option maxRecDepth 100000 in
theorem zb_175_1 : zl_175_1.all (fun r => zz_wb zt_hh zp_P zt_cl zt_tf zt_fd zt_nf zm_175.1.1.cls zm_175.1.1.name r) = true := by decide +kernel
set_option maxRecDepth 100000 in
theorem zy_175_0 : zl_175_0.all (fun r => zz_tb zt_hh zp_P zm_175 r) = true := by decide +kernel
set_option maxRecDepth 100000 in
theorem zy_175_1 : zl_175_1.all (fun r => zz_tb zt_hh zp_P zm_175 r) = true := by decide +kernel
theorem zw_175 : zz_okW zt_hh zp_P zt_cl zt_tf zt_fd zt_nf zt_T zt_N zm_175 := List.forall_mem_cons.mpr ⟨(zz_w_okL zd_175_0 zb_175_0 (zz_places goodWord zq_175_0 zg_175_0) (zz_places zz_isN zr_175_0 zs_175_0) zy_175_0), List.forall_mem_cons.mpr ⟨(zz_w_okL zd_175_1 zb_175_1 (zz_places goodWord zq_175_1 zg_175_1) (zz_places zz_isN zr_175_1 zs_175_1) zy_175_1), (fun _ h => absurd h List.not_mem_nil)⟩⟩
set_option maxRecDepth 100000 in
theorem zq_175 : [zz_cw zt_hh zm_175, Cond.initialized zm_175.1.1.cls].map some = ([895, 217] : List Nat).map (fun i => lw_tbl[i]?) := by rfl
set_option maxRecDepth 100000 in
theorem zg_175 : [zz_cw zt_hh zm_175, Cond.initialized zm_175.1.1.cls].all goodWord = true := by decide +kernel
set_option maxRecDepth 100000 in
theorem zb_175 : (plainName zm_175.1.1.cls && (decide (zm_175.1.1.cls ≠ "java/lang/invoke/MethodHandle" ∧ zm_175.1.1.cls ≠ "java/lang/invoke/VarHandle") && decide (zm_175.1.2.2.1 ≤ 40))) = true := by decide +kernel
theorem zo_175 : zz_okM zt_hh zp_P zt_cl zt_tf zt_fd zt_nf zt_T zt_N zm_175 := zz_w_okM zw_175 zb_175 (zz_places goodWord zq_175 zg_175)
set_option maxRecDepth 100000 in
theorem zd_176_0 : ∀ r ∈ zl_176_0, decode zm_176.1.2.1 r.1 = .ok (r.2.1, r.2.2.1) := by decide +kernel
set_option maxRecDepth 100000 in
theorem zq_176_0 : (zl_176_0.flatMap (zz_wr zt_hh zp_P zt_cl zm_176.1.1.cls)).map some = ([890, 11, 888, 291, 766, 767, 765, 291, 770, 771, 769, 910, 15, 908, 890, 11, 888] : List Nat).map (fun i => lw_tbl[i]?) := by rfl
set_option maxRecDepth 100000 in
theorem zg_176_0 : (zl_176_0.flatMap (zz_wr zt_hh zp_P zt_cl zm_176.1.1.cls)).all goodWord = true := by decide +kernel
set_option maxRecDepth 100000 in
theorem zr_176_0 : (zl_176_0.flatMap (zz_wn zp_P zm_176.1.1.cls)).map some = ([] : List Nat).map (fun i => lw_tbl[i]?) := by rfl
set_option maxRecDepth 100000 in
theorem zs_176_0 : (zl_176_0.flatMap (zz_wn zp_P zm_176.1.1.cls)).all zz_isN = true := by decide +kernel
set_option maxRecDepth 100000 in
theorem zb_176_0 : zl_176_0.all (fun r => zz_wb zt_hh zp_P zt_cl zt_tf zt_fd zt_nf zm_176.1.1.cls zm_176.1.1.name r) = true := by decide +kernel
set_option maxRecDepth 100000 in
theorem zy_176_0 : zl_176_0.all (fun r => zz_tb zt_hh zp_P zm_176 r) = true := by decide +kernel
theorem zw_176 : zz_okW zt_hh zp_P zt_cl zt_tf zt_fd zt_nf zt_T zt_N zm_176 := List.forall_mem_cons.mpr ⟨(zz_w_okL zd_176_0 zb_176_0 (zz_places goodWord zq_176_0 zg_176_0) (zz_places zz_isN zr_176_0 zs_176_0) zy_176_0), (fun _ h => absurd h List.not_mem_nil)⟩
set_option maxRecDepth 100000 in
theorem zq_176 : [zz_cw zt_hh zm_176, Cond.initialized zm_176.1.1.cls].map some = ([907, 217] : List Nat).map (fun i => lw_tbl[i]?) := by rfl
set_option maxRecDepth 100000 in
theorem zg_176 : [zz_cw zt_hh zm_176, Cond.initialized zm_176.1.1.cls].all goodWord = true := by decide +kernel
set_option maxRecDepth 100000 in
theorem zb_176 : (plainName zm_176.1.1.cls && (decide (zm_176.1.1.cls ≠ "java/lang/invoke/MethodHandle" ∧ zm_176.1.1.cls ≠ "java/lang/invoke/VarHandle") && decide (zm_176.1.2.2.1 ≤ 40))) = true := by decide +kernel
theorem zo_176 : zz_okM zt_hh zp_P zt_cl zt_tf zt_fd zt_nf zt_T zt_N zm_176 := zz_w_okM zw_176 zb_176 (zz_places goodWord zq_176 zg_176)
set_option maxRecDepth 100000 in
theorem zd_177_0 : ∀ r ∈ zl_177_0, decode zm_177.1.2.1 r.1 = .ok (r.2.1, r.2.2.1) := by decide +kernel
set_option maxRecDepth 100000 in
theorem zq_177_0 : (zl_177_0.flatMap (zz_wr zt_hh zp_P zt_cl zm_177.1.1.cls)).map some = ([291, 800, 801, 799, 291, 770, 771, 769, 797, 8, 795, 292, 913, 914, 912, 291, 918, 919, 917, 923, 16, 921, 978, 26, 976] : List Nat).map (fun i => lw_tbl[i]?) := by rfl
set_option maxRecDepth 100000 in
theorem zg_177_0 : (zl_177_0.flatMap (zz_wr zt_hh zp_P zt_cl zm_177.1.1.cls)).all goodWord = true := by decide +kernel
set_option maxRecDepth 100000 in
theorem zr_177_0 : (zl_177_0.flatMap (zz_wn zp_P zm_177.1.1.cls)).map some = ([] : List Nat).map (fun i => lw_tbl[i]?) := by rfl
set_option maxRecDepth 100000 in
theorem zs_177_0 : (zl_177_0.flatMap (zz_wn zp_P zm_177.1.1.cls)).all zz_isN = true := by decide +kernel
set_option maxRecDepth 100000 in
theorem zb_177_0 : zl_177_0.all (fun r => zz_wb zt_hh zp_P zt_cl zt_tf zt_fd zt_nf zm_177.1.1.cls zm_177.1.1.name r) = true := by decide +kernel
set_option maxRecDepth 100000 in
theorem zd_177_1 : ∀ r ∈ zl_177_1, decode zm_177.1.2.1 r.1 = .ok (r.2.1, r.2.2.1) := by decide +kernel
set_option maxRecDepth 100000 in
theorem zq_177_1 : (zl_177_1.flatMap (zz_wr zt_hh zp_P zt_cl zm_177.1.1.cls)).map some = ([982, 27, 980, 785, 7, 783, 984, 990, 986, 987, 989, 990, 231, 994, 28, 992, 1012, 30, 1010, 1016, 31, 1014, 1022, 32, 1020, 1022, 32, 1020, 1022, 32, 1020] : List Nat).map (fun i => lw_tbl[i]?) := by rfl
set_option maxRecDepth 100000 in
theorem zg_177_1 : (zl_177_1.flatMap (zz_wr zt_hh zp_P zt_cl zm_177.1.1.cls)).all goodWord = true := by decide +kernel
set_option maxRecDepth 100000 in
theorem zr_177_1 : (zl_177_1.flatMap (zz_wn zp_P zm_177.1.1.cls)).map some = ([] : List Nat).map (fun i => lw_tbl[i]?) := by rfl
set_option maxRecDepth 100000 in
theorem zs_177_1 : (zl_177_1.flatMap (zz_wn zp_P zm_177.1.1.cls)).all zz_isN = true := by decide +kernel
set_option maxRecDepth 100000 in
theorem zb_177_1 : zl_177_1.all (fun r => zz_wb zt_hh zp_P zt_cl zt_tf zt_fd zt_nf zm_177.1.1.cls zm_177.1.1.name r) = true := by decide +kernel
set_option maxRecDepth 100000 in
theorem zd_177_2 : ∀ r ∈ zl_177_2, decode zm_177.1.2.1 r.1 = .ok (r.2.1, r.2.2.1) := by decide +kernel
set_option maxRecDepth 100000 in
theorem zq_177_2 : (zl_177_2.flatMap (zz_wr zt_hh zp_P zt_cl zm_177.1.1.cls)).map some = ([1026, 33, 1024, 951, 23, 949, 978, 26, 976] : List Nat).map (fun i => lw_tbl[i]?) := by rfl
set_option maxRecDepth 100000 in
theorem zg_177_2 : (zl_177_2.flatMap (zz_wr zt_hh zp_P zt_cl zm_177.1.1.cls)).all goodWord = true := by decide +kernel
set_option maxRecDepth 100000 in
theorem zr_177_2 : (zl_177_2.flatMap (zz_wn zp_P zm_177.1.1.cls)).map some = ([] : List Nat).map (fun i => lw_tbl[i]?) := by rfl
set_option maxRecDepth 100000 in
theorem zs_177_2 : (zl_177_2.flatMap (zz_wn zp_P zm_177.1.1.cls)).all zz_isN = true := by decide +kernel
set_option maxRecDepth 100000 in
theorem zb_177_2 : zl_177_2.all (fun r => zz_wb zt_hh zp_P zt_cl zt_tf zt_fd zt_nf zm_177.1.1.cls zm_177.1.1.name r) = true := by decide +kernel
set_option maxRecDepth 100000 in
theorem zy_177_0 : zl_177_0.all (fun r => zz_tb zt_hh zp_P zm_177 r) = true := by decide +kernel
set_option maxRecDepth 100000 in
theorem zy_177_1 : zl_177_1.all (fun r => zz_tb zt_hh zp_P zm_177 r) = true := by decide +kernel
set_option maxRecDepth 100000 in
theorem zy_177_2 : zl_177_2.all (fun r => zz_tb zt_hh zp_P zm_177 r) = true := by decide +kernel
theorem zw_177 : zz_okW zt_hh zp_P zt_cl zt_tf zt_fd zt_nf zt_T zt_N zm_177 := List.forall_mem_cons.mpr ⟨(zz_w_okL zd_177_0 zb_177_0 (zz_places goodWord zq_177_0 zg_177_0) (zz_places zz_isN zr_177_0 zs_177_0) zy_177_0), List.forall_mem_cons.mpr ⟨(zz_w_okL zd_177_1 zb_177_1 (zz_places goodWord zq_177_1 zg_177_1) (zz_places zz_isN zr_177_1 zs_177_1) zy_177_1), List.forall_mem_cons.mpr ⟨(zz_w_okL zd_177_2 zb_177_2 (zz_places goodWord zq_177_2 zg_177_2) (zz_places zz_isN zr_177_2 zs_177_2) zy_177_2), (fun _ h => absurd h List.not_mem_nil)⟩⟩⟩
set_option maxRecDepth 100000 in
theorem zq_177 : [zz_cw zt_hh zm_177, Cond.initialized zm_177.1.1.cls].map some = ([911, 217] : List Nat).map (fun i => lw_tbl[i]?) := by rfl
set_option maxRecDepth 100000 in
theorem zg_177 : [zz_cw zt_hh zm_177, Cond.initialized zm_177.1.1.cls].all goodWord = true := by decide +kernel
set_option maxRecDepth 100000 in
theorem zb_177 : (plainName zm_177.1.1.cls && (decide (zm_177.1.1.cls ≠ "java/lang/invoke/MethodHandle" ∧ zm_177.1.1.cls ≠ "java/lang/invoke/VarHandle") && decide (zm_177.1.2.2.1 ≤ 40))) = true := by decide +kernel
theorem zo_177 : zz_okM zt_hh zp_P zt_cl zt_tf zt_fd zt_nf zt_T zt_N zm_177 := zz_w_okM zw_177 zb_177 (zz_places goodWord zq_177 zg_177)
set_option maxRecDepth 100000 in
theorem zd_178_0 : ∀ r ∈ zl_178_0, decode zm_178.1.2.1 r.1 = .ok (r.2.1, r.2.2.1) := by decide +kernel
set_option maxRecDepth 100000 in
theorem zq_178_0 : (zl_178_0.flatMap (zz_wr zt_hh zp_P zt_cl zm_178.1.1.cls)).map some = ([890, 11, 888, 292, 913, 914, 912] : List Nat).map (fun i => lw_tbl[i]?) := by rfl
set_option maxRecDepth 100000 in
theorem zg_178_0 : (zl_178_0.flatMap (zz_wr zt_hh zp_P zt_cl zm_178.1.1.cls)).all goodWord = true := by decide +kernel
set_option maxRecDepth 100000 in
theorem zr_178_0 : (zl_178_0.flatMap (zz_wn zp_P zm_178.1.1.cls)).map some = ([] : List Nat).map (fun i => lw_tbl[i]?) := by rfl
set_option maxRecDepth 100000 in
theorem zs_178_0 : (zl_178_0.flatMap (zz_wn zp_P zm_178.1.1.cls)).all zz_isN = true := by decide +kernel
set_option maxRecDepth 100000 in
theorem zb_178_0 : zl_178_0.all (fun r => zz_wb zt_hh zp_P zt_cl zt_tf zt_fd zt_nf zm_178.1.1.cls zm_178.1.1.name r) = true := by decide +kernel
set_option maxRecDepth 100000 in
theorem zy_178_0 : zl_178_0.all (fun r => zz_tb zt_hh zp_P zm_178 r) = true := by decide +kernel
theorem zw_178 : zz_okW zt_hh zp_P zt_cl zt_tf zt_fd zt_nf zt_T zt_N zm_178 := List.forall_mem_cons.mpr ⟨(zz_w_okL zd_178_0 zb_178_0 (zz_places goodWord zq_178_0 zg_178_0) (zz_places zz_isN zr_178_0 zs_178_0) zy_178_0), (fun _ h => absurd h List.not_mem_nil)⟩
set_option maxRecDepth 100000 in
theorem zq_178 : [zz_cw zt_hh zm_178, Cond.initialized zm_178.1.1.cls].map some = ([979, 217] : List Nat).map (fun i => lw_tbl[i]?) := by rfl
set_option maxRecDepth 100000 in
theorem zg_178 : [zz_cw zt_hh zm_178, Cond.initialized zm_178.1.1.cls].all goodWord = true := by decide +kernel
set_option maxRecDepth 100000 in
theorem zb_178 : (plainName zm_178.1.1.cls && (decide (zm_178.1.1.cls ≠ "java/lang/invoke/MethodHandle" ∧ zm_178.1.1.cls ≠ "java/lang/invoke/VarHandle") && decide (zm_178.1.2.2.1 ≤ 40))) = true := by decide +kernel
theorem zo_178 : zz_okM zt_hh zp_P zt_cl zt_tf zt_fd zt_nf zt_T zt_N zm_178 := zz_w_okM zw_178 zb_178 (zz_places goodWord zq_178 zg_178)
set_option maxRecDepth 100000 in
theorem zd_179_0 : ∀ r ∈ zl_179_0, decode zm_179.1.2.1 r.1 = .ok (r.2.1, r.2.2.1) := by decide +kernel
set_option maxRecDepth 100000 in
theorem zq_179_0 : (zl_179_0.flatMap (zz_wr zt_hh zp_P zt_cl zm_179.1.1.cls)).map some = ([291, 758, 759, 867, 931, 18, 929, 890, 11, 888, 292, 913, 914, 912] : List Nat).map (fun i => lw_tbl[i]?) := by rfl
set_option maxRecDepth 100000 in
theorem zg_179_0 : (zl_179_0.flatMap (zz_wr zt_hh zp_P zt_cl zm_179.1.1.cls)).all goodWord = true := by decide +kernel
set_option maxRecDepth 100000 in
theorem zr_179_0 : (zl_179_0.flatMap (zz_wn zp_P zm_179.1.1.cls)).map some = ([] : List Nat).map (fun i => lw_tbl[i]?) := by rfl
set_option maxRecDepth 100000 in
theorem zs_179_0 : (zl_179_0.flatMap (zz_wn zp_P zm_179.1.1.cls)).all zz_isN = true := by decide +kernel
set_option maxRecDepth 100000 in
theorem zb_179_0 : zl_179_0.all (fun r => zz_wb zt_hh zp_P zt_cl zt_tf zt_fd zt_nf zm_179.1.1.cls zm_179.1.1.name r) = true := by decide +kernel
set_option maxRecDepth 100000 in
theorem zy_179_0 : zl_179_0.all (fun r => zz_tb zt_hh zp_P zm_179 r) = true := by decide +kernel
theorem zw_179 : zz_okW zt_hh zp_P zt_cl zt_tf zt_fd zt_nf zt_T zt_N zm_179 := List.forall_mem_cons.mpr ⟨(zz_w_okL zd_179_0 zb_179_0 (zz_places goodWord zq_179_0 zg_179_0) (zz_places zz_isN zr_179_0 zs_179_0) zy_179_0), (fun _ h => absurd h List.not_mem_nil)⟩
set_option maxRecDepth 100000 in
theorem zq_179 : [zz_cw zt_hh zm_179, Cond.initialized zm_179.1.1.cls].map some = ([1023, 217] : List Nat).map (fun i => lw_tbl[i]?) := by rfl
set_option maxRecDepth 100000 in
theorem zg_179 : [zz_cw zt_hh zm_179, Cond.initialized zm_179.1.1.cls].all goodWord = true := by decide +kernel
set_option maxRecDepth 100000 in
theorem zb_179 : (plainName zm_179.1.1.cls && (decide (zm_179.1.1.cls ≠ "java/lang/invoke/MethodHandle" ∧ zm_179.1.1.cls ≠ "java/lang/invoke/VarHandle") && decide (zm_179.1.2.2.1 ≤ 40))) = true := by decide +kernel
theorem zo_179 : zz_okM zt_hh zp_P zt_cl zt_tf zt_fd zt_nf zt_T zt_N zm_179 := zz_w_okM zw_179 zb_179 (zz_places goodWord zq_179 zg_179)
set_option maxRecDepth 100000 in
theorem zd_180_0 : ∀ r ∈ zl_180_0, decode zm_180.1.2.1 r.1 = .ok (r.2.1, r.2.2.1) := by decide +kernel
set_option maxRecDepth 100000 in
theorem zq_180_0 : (zl_180_0.flatMap (zz_wr zt_hh zp_P zt_cl zm_180.1.1.cls)).map some = ([291, 800, 801, 799, 947, 22, 945, 291, 800, 801, 799, 291, 770, 771, 769, 291, 800, 801, 799, 890, 11, 888, 931, 18, 929, 890, 11, 888] : List Nat).map (fun i => lw_tbl[i]?) := by rfl
set_option maxRecDepth 100000 in
theorem zg_180_0 : (zl_180_0.flatMap (zz_wr zt_hh zp_P zt_cl zm_180.1.1.cls)).all goodWord = true := by decide +kernel
set_option maxRecDepth 100000 in
theorem zr_180_0 : (zl_180_0.flatMap (zz_wn zp_P zm_180.1.1.cls)).map some = ([] : List Nat).map (fun i => lw_tbl[i]?) := by rfl
set_option maxRecDepth 100000 in
theorem zs_180_0 : (zl_180_0.flatMap (zz_wn zp_P zm_180.1.1.cls)).all zz_isN = true := by decide +kernel
set_option maxRecDepth 100000 in
theorem zb_180_0 : zl_180_0.all (fun r => zz_wb zt_hh zp_P zt_cl zt_tf zt_fd zt_nf zm_180.1.1.cls zm_180.1.1.name r) = true := by decide +kernel
set_option maxRecDepth 100000 in
theorem zd_180_1 : ∀ r ∈ zl_180_1, decode zm_180.1.2.1 r.1 = .ok (r.2.1, r.2.2.1) := by decide +kernel
set_option maxRecDepth 100000 in
theorem zq_180_1 : (zl_180_1.flatMap (zz_wr zt_hh zp_P zt_cl zm_180.1.1.cls)).map some = ([890, 11, 888, 931, 18, 929, 890, 11, 888, 292, 913, 914, 912, 292, 913, 914, 912, 292, 913, 914, 912] : List Nat).map (fun i => lw_tbl[i]?) := by rfl
set_option maxRecDepth 100000 in
theorem zg_180_1 : (zl_180_1.flatMap (zz_wr zt_hh zp_P zt_cl zm_180.1.1.cls)).all goodWord = true := by decide +kernel
set_option maxRecDepth 100000 in
theorem zr_180_1 : (zl_180_1.flatMap (zz_wn zp_P zm_180.1.1.cls)).map some = ([] : List Nat).map (fun i => lw_tbl[i]?) := by rfl
set_option maxRecDepth 100000 in
theorem zs_180_1 : (zl_180_1.flatMap (zz_wn zp_P zm_180.1.1.cls)).all zz_isN = true := by decide +kernel
set_option maxRecDepth 100000 in
theorem zb_180_1 : zl_180_1.all (fun r => zz_wb zt_hh zp_P zt_cl zt_tf zt_fd zt_nf zm_180.1.1.cls zm_180.1.1.name r) = true := by decide +kernel
set_option maxRecDepth 100000 in
theorem zy_180_0 : zl_180_0.all (fun r => zz_tb zt_hh zp_P zm_180 r) = true := by decide +kernel
set_option maxRecDepth 100000 in
theorem zy_180_1 : zl_180_1.all (fun r => zz_tb zt_hh zp_P zm_180 r) = true := by decide +kernel
theorem zw_180 : zz_okW zt_hh zp_P zt_cl zt_tf zt_fd zt_nf zt_T zt_N zm_180 := List.forall_mem_cons.mpr ⟨(zz_w_okL zd_180_0 zb_180_0 (zz_places goodWord zq_180_0 zg_180_0) (zz_places zz_isN zr_180_0 zs_180_0) zy_180_0), List.forall_mem_cons.mpr ⟨(zz_w_okL zd_180_1 zb_180_1 (zz_places goodWord zq_180_1 zg_180_1) (zz_places zz_isN zr_180_1 zs_180_1) zy_180_1), (fun _ h => absurd h List.not_mem_nil)⟩⟩
set_option maxRecDepth 100000 in
theorem zq_180 : [zz_cw zt_hh zm_180, Cond.initialized zm_180.1.1.cls].map some = ([983, 217] : List Nat).map (fun i => lw_tbl[i]?) := by rfl
set_option maxRecDepth 100000 in
theorem zg_180 : [zz_cw zt_hh zm_180, Cond.initialized zm_180.1.1.cls].all goodWord = true := by decide +kernel
set_option maxRecDepth 100000 in
theorem zb_180 : (plainName zm_180.1.1.cls && (decide (zm_180.1.1.cls ≠ "java/lang/invoke/MethodHandle" ∧ zm_180.1.1.cls ≠ "java/lang/invoke/VarHandle") && decide (zm_180.1.2.2.1 ≤ 40))) = true := by decide +kernel
theorem zo_180 : zz_okM zt_hh zp_P zt_cl zt_tf zt_fd zt_nf zt_T zt_N zm_180 := zz_w_okM zw_180 zb_180 (zz_places goodWord zq_180 zg_180)
set_option maxRecDepth 100000 in
theorem zd_181_0 : ∀ r ∈ zl_181_0, decode zm_181.1.2.1 r.1 = .ok (r.2.1, r.2.2.1) := by decide +kernel
set_option maxRecDepth 100000 in
theorem zq_181_0 : (zl_181_0.flatMap (zz_wr zt_hh zp_P zt_cl zm_181.1.1.cls)).map some = ([291, 758, 759, 867, 998, 29, 996, 906, 14, 904, 291, 770, 771, 769, 785, 7, 783, 1000, 292, 292, 1003, 1004, 1002, 1007, 1008, 1006, 291, 758, 759, 867, 292, 913, 914, 912, 292] : List Nat).map (fun i => lw_tbl[i]?) := by rfl
set_option maxRecDepth 100000 in
theorem zg_181_0 : (zl_181_0.flatMap (zz_wr zt_hh zp_P zt_cl zm_181.1.1.cls)).all goodWord = true := by decide +kernel
set_option maxRecDepth 100000 in
theorem zr_181_0 : (zl_181_0.flatMap (zz_wn zp_P zm_181.1.1.cls)).map some = ([] : List Nat).map (fun i => lw_tbl[i]?) := by rfl
set_option maxRecDepth 100000 in
theorem zs_181_0 : (zl_181_0.flatMap (zz_wn zp_P zm_181.1.1.cls)).all zz_isN = true := by decide +kernel
set_option maxRecDepth 100000 in
theorem zb_181_0 : zl_181_0.all (fun r => zz_wb zt_hh zp_P zt_cl zt_tf zt_fd zt_nf zm_181.1.1.cls zm_181.1.1.name r) = true := by decide +kernel
set_option maxRecDepth 100000 in
theorem zd_181_1 : ∀ r ∈ zl_181_1, decode zm_181.1.2.1 r.1 = .ok (r.2.1, r.2.2.1) := by decide +kernel
set_option maxRecDepth 100000 in
theorem zq_181_1 : (zl_181_1.flatMap (zz_wr zt_hh zp_P zt_cl zm_181.1.1.cls)).map some = ([292, 1003, 1004, 1002, 1007, 1008, 1006, 906, 14, 904, 292, 292, 1003, 1004, 1002, 1007, 1008, 1006] : List Nat).map (fun i => lw_tbl[i]?) := by rfl
set_option maxRecDepth 100000 in
theorem zg_181_1 : (zl_181_1.flatMap (zz_wr zt_hh zp_P zt_cl zm_181.1.1.cls)).all goodWord = true := by decide +kernel
set_option maxRecDepth 100000 in
theorem zr_181_1 : (zl_181_1.flatMap (zz_wn zp_P zm_181.1.1.cls)).map some = ([] : List Nat).map (fun i => lw_tbl[i]?) := by rfl
set_option maxRecDepth 100000 in
theorem zs_181_1 : (zl_181_1.flatMap (zz_wn zp_P zm_181.1.1.cls)).all zz_isN = true := by decide +kernel
set_option maxRecDepth 100000 in
theorem zb_181_1 : zl_181_1.all (fun r => zz_wb zt_hh zp_P zt_cl zt_tf zt_fd zt_nf zm_181.1.1.cls zm_181.1.1.name r) = true := by decide +kernel
set_option maxRecDepth 100000 in
theorem zy_181_0 : zl_181_0.all (fun r => zz_tb zt_hh zp_P zm_181 r) = true := by decide +kernel
set_option maxRecDepth 100000 in
theorem zy_181_1 : zl_181_1.all (fun r => zz_tb zt_hh zp_P zm_181 r) = true := by decide +kernel
theorem zw_181 : zz_okW zt_hh zp_P zt_cl zt_tf zt_fd zt_nf zt_T zt_N zm_181 := List.forall_mem_cons.mpr ⟨(zz_w_okL zd_181_0 zb_181_0 (zz_places goodWord zq_181_0 zg_181_0) (zz_places zz_isN zr_181_0 zs_181_0) zy_181_0), List.forall_mem_cons.mpr ⟨(zz_w_okL zd_181_1 zb_181_1 (zz_places goodWord zq_181_1 zg_181_1) (zz_places zz_isN zr_181_1 zs_181_1) zy_181_1), (fun _ h => absurd h List.not_mem_nil)⟩⟩
set_option maxRecDepth 100000 in
theorem zq_181 : [zz_cw zt_hh zm_181, Cond.initialized zm_181.1.1.cls].map some = ([995, 217] : List Nat).map (fun i => lw_tbl[i]?) := by rfl
set_option maxRecDepth 100000 in
theorem zg_181 : [zz_cw zt_hh zm_181, Cond.initialized zm_181.1.1.cls].all goodWord = true := by decide +kernel
set_option maxRecDepth 100000 in
theorem zb_181 : (plainName zm_181.1.1.cls && (decide (zm_181.1.1.cls ≠ "java/lang/invoke/MethodHandle" ∧ zm_181.1.1.cls ≠ "java/lang/invoke/VarHandle") && decide (zm_181.1.2.2.1 ≤ 40))) = true := by decide +kernel
theorem zo_181 : zz_okM zt_hh zp_P zt_cl zt_tf zt_fd zt_nf zt_T zt_N zm_181 := zz_w_okM zw_181 zb_181 (zz_places goodWord zq_181 zg_181)
set_option maxRecDepth 100000 in
theorem zd_182_0 : ∀ r ∈ zl_182_0, decode zm_182.1.2.1 r.1 = .ok (r.2.1, r.2.2.1) := by decide +kernel
set_option maxRecDepth 100000 in
theorem zq_182_0 : (zl_182_0.flatMap (zz_wr zt_hh zp_P zt_cl zm_182.1.1.cls)).map some = ([291, 758, 759, 867, 292, 913, 914, 912, 998, 29, 996, 906, 14, 904, 292, 913, 914, 912, 292, 292, 1003, 1004, 1002, 1007, 1008, 1006] : List Nat).map (fun i => lw_tbl[i]?) := by rfl
set_option maxRecDepth 100000 in
theorem zg_182_0 : (zl_182_0.flatMap (zz_wr zt_hh zp_P zt_cl zm_182.1.1.cls)).all goodWord = true := by decide +kernel
set_option maxRecDepth 100000 in
theorem zr_182_0 : (zl_182_0.flatMap (zz_wn zp_P zm_182.1.1.cls)).map some = ([] : List Nat).map (fun i => lw_tbl[i]?) := by rfl
set_option maxRecDepth 100000 in
theorem zs_182_0 : (zl_182_0.flatMap (zz_wn zp_P zm_182.1.1.cls)).all zz_isN = true := by decide +kernel
set_option maxRecDepth 100000 in
theorem zb_182_0 : zl_182_0.all (fun r => zz_wb zt_hh zp_P zt_cl zt_tf zt_fd zt_nf zm_182.1.1.cls zm_182.1.1.name r) = true := by decide +kernel
set_option maxRecDepth 100000 in
theorem zy_182_0 : zl_182_0.all (fun r => zz_tb zt_hh zp_P zm_182 r) = true := by decide +kernel
theorem zw_182 : zz_okW zt_hh zp_P zt_cl zt_tf zt_fd zt_nf zt_T zt_N zm_182 := List.forall_mem_cons.mpr ⟨(zz_w_okL zd_182_0 zb_182_0 (zz_places goodWord zq_182_0 zg_182_0) (zz_places zz_isN zr_182_0 zs_182_0) zy_182_0), (fun _ h => absurd h List.not_mem_nil)⟩
set_option maxRecDepth 100000 in
theorem zq_182 : [zz_cw zt_hh zm_182, Cond.initialized zm_182.1.1.cls].map some = ([1013, 217] : List Nat).map (fun i => lw_tbl[i]?) := by rfl
set_option maxRecDepth 100000 in
theorem zg_182 : [zz_cw zt_hh zm_182, Cond.initialized zm_182.1.1.cls].all goodWord = true := by decide +kernel
set_option maxRecDepth 100000 in
theorem zb_182 : (plainName zm_182.1.1.cls && (decide (zm_182.1.1.cls ≠ "java/lang/invoke/MethodHandle" ∧ zm_182.1.1.cls ≠ "java/lang/invoke/VarHandle") && decide (zm_182.1.2.2.1 ≤ 40))) = true := by decide +kernel
theorem zo_182 : zz_okM zt_hh zp_P zt_cl zt_tf zt_fd zt_nf zt_T zt_N zm_182 := zz_w_okM zw_182 zb_182 (zz_places goodWord zq_182 zg_182)
set_option maxRecDepth 100000 in
theorem zd_183_0 : ∀ r ∈ zl_183_0, decode zm_183.1.2.1 r.1 = .ok (r.2.1, r.2.2.1) := by decide +kernel
set_option maxRecDepth 100000 in
theorem zq_183_0 : (zl_183_0.flatMap (zz_wr zt_hh zp_P zt_cl zm_183.1.1.cls)).map some = ([890, 11, 888, 931, 18, 929, 890, 11, 888, 292, 913, 914, 912] : List Nat).map (fun i => lw_tbl[i]?) := by rfl
set_option maxRecDepth 100000 in
theorem zg_183_0 : (zl_183_0.flatMap (zz_wr zt_hh zp_P zt_cl zm_183.1.1.cls)).all goodWord = true := by decide +kernel
set_option maxRecDepth 100000 in
theorem zr_183_0 : (zl_183_0.flatMap (zz_wn zp_P zm_183.1.1.cls)).map some = ([] : List Nat).map (fun i => lw_tbl[i]?) := by rfl
set_option maxRecDepth 100000 in
theorem zs_183_0 : (zl_183_0.flatMap (zz_wn zp_P zm_183.1.1.cls)).all zz_isN = true := by decide +kernel
set_option maxRecDepth 100000 in
theorem zb_183_0 : zl_183_0.all (fun r => zz_wb zt_hh zp_P zt_cl zt_tf zt_fd zt_nf zm_183.1.1.cls zm_183.1.1.name r) = true := by decide +kernel
set_option maxRecDepth 100000 in
theorem zy_183_0 : zl_183_0.all (fun r => zz_tb zt_hh zp_P zm_183 r) = true := by decide +kernel
theorem zw_183 : zz_okW zt_hh zp_P zt_cl zt_tf zt_fd zt_nf zt_T zt_N zm_183 := List.forall_mem_cons.mpr ⟨(zz_w_okL zd_183_0 zb_183_0 (zz_places goodWord zq_183_0 zg_183_0) (zz_places zz_isN zr_183_0 zs_183_0) zy_183_0), (fun _ h => absurd h List.not_mem_nil)⟩
set_option maxRecDepth 100000 in
theorem zq_183 : [zz_cw zt_hh zm_183, Cond.initialized zm_183.1.1.cls].map some = ([999, 217] : List Nat).map (fun i => lw_tbl[i]?) := by rfl
set_option maxRecDepth 100000 in
theorem zg_183 : [zz_cw zt_hh zm_183, Cond.initialized zm_183.1.1.cls].all goodWord = true := by decide +kernel
set_option maxRecDepth 100000 in
theorem zb_183 : (plainName zm_183.1.1.cls && (decide (zm_183.1.1.cls ≠ "java/lang/invoke/MethodHandle" ∧ zm_183.1.1.cls ≠ "java/lang/invoke/VarHandle") && decide (zm_183.1.2.2.1 ≤ 40))) = true := by decide +kernel
theorem zo_183 : zz_okM zt_hh zp_P zt_cl zt_tf zt_fd zt_nf zt_T zt_N zm_183 := zz_w_okM zw_183 zb_183 (zz_places goodWord zq_183 zg_183)
set_option maxRecDepth 100000 in
theorem zd_184_0 : ∀ r ∈ zl_184_0, decode zm_184.1.2.1 r.1 = .ok (r.2.1, r.2.2.1) := by decide +kernel
set_option maxRecDepth 100000 in
theorem zq_184_0 : (zl_184_0.flatMap (zz_wr zt_hh zp_P zt_cl zm_184.1.1.cls)).map some = ([291, 758, 759, 867, 947, 22, 945, 1018, 781, 6, 779, 931, 18, 929, 292, 913, 914, 912, 292, 913, 914, 912, 292, 913, 914, 912, 906, 14, 904, 292] : List Nat).map (fun i => lw_tbl[i]?) := by rfl
set_option maxRecDepth 100000 in
theorem zg_184_0 : (zl_184_0.flatMap (zz_wr zt_hh zp_P zt_cl zm_184.1.1.cls)).all goodWord = true := by decide +kernel
set_option maxRecDepth 100000 in
theorem zr_184_0 : (zl_184_0.flatMap (zz_wn zp_P zm_184.1.1.cls)).map some = ([] : List Nat).map (fun i => lw_tbl[i]?) := by rfl
set_option maxRecDepth 100000 in
theorem zs_184_0 : (zl_184_0.flatMap (zz_wn zp_P zm_184.1.1.cls)).all zz_isN = true := by decide +kernel
set_option maxRecDepth 100000 in
theorem zb_184_0 : zl_184_0.all (fun r => zz_wb zt_hh zp_P zt_cl zt_tf zt_fd zt_nf zm_184.1.1.cls zm_184.1.1.name r) = true := by decide +kernel
set_option maxRecDepth 100000 in
theorem zd_184_1 : ∀ r ∈ zl_184_1, decode zm_184.1.2.1 r.1 = .ok (r.2.1, r.2.2.1) := by decide +kernel
set_option maxRecDepth 100000 in
theorem zq_184_1 : (zl_184_1.flatMap (zz_wr zt_hh zp_P zt_cl zm_184.1.1.cls)).map some = ([913, 914, 912, 292, 292, 1003, 1004, 1002, 1007, 1008, 1006] : List Nat).map (fun i => lw_tbl[i]?) := by rfl
set_option maxRecDepth 100000 in
theorem zg_184_1 : (zl_184_1.flatMap (zz_wr zt_hh zp_P zt_cl zm_184.1.1.cls)).all goodWord = true := by decide +kernel
set_option maxRecDepth 100000 in
theorem zr_184_1 : (zl_184_1.flatMap (zz_wn zp_P zm_184.1.1.cls)).map some = ([] : List Nat).map (fun i => lw_tbl[i]?) := by rfl
set_option maxRecDepth 100000 in
theorem zs_184_1 : (zl_184_1.flatMap (zz_wn zp_P zm_184.1.1.cls)).all zz_isN = true := by decide +kernel
set_option maxRecDepth 100000 in
theorem zb_184_1 : zl_184_1.all (fun r => zz_wb zt_hh zp_P zt_cl zt_tf zt_fd zt_nf zm_184.1.1.cls zm_184.1.1.name r) = true := by decide +kernel
set_option maxRecDepth 100000 in
theorem zy_184_0 : zl_184_0.all (fun r => zz_tb zt_hh zp_P zm_184 r) = true := by decide +kernel
set_option maxRecDepth 100000 in
theorem zy_184_1 : zl_184_1.all (fun r => zz_tb zt_hh zp_P zm_184 r) = true := by decide +kernel
theorem zw_184 : zz_okW zt_hh zp_P zt_cl zt_tf zt_fd zt_nf zt_T zt_N zm_184 := List.forall_mem_cons.mpr ⟨(zz_w_okL zd_184_0 zb_184_0 (zz_places goodWord zq_184_0 zg_184_0) (zz_places zz_isN zr_184_0 zs_184_0) zy_184_0), List.forall_mem_cons.mpr ⟨(zz_w_okL zd_184_1 zb_184_1 (zz_places goodWord zq_184_1 zg_184_1) (zz_places zz_isN zr_184_1 zs_184_1) zy_184_1), (fun _ h => absurd h List.not_mem_nil)⟩⟩
set_option maxRecDepth 100000 in
theorem zq_184 : [zz_cw zt_hh zm_184, Cond.initialized zm_184.1.1.cls].map some = ([1017, 217] : List Nat).map (fun i => lw_tbl[i]?) := by rfl
set_option maxRecDepth 100000 in
theorem zg_184 : [zz_cw zt_hh zm_184, Cond.initialized zm_184.1.1.cls].all goodWord = true := by decide +kernel
set_option maxRecDepth 100000 in
theorem zb_184 : (plainName zm_184.1.1.cls && (decide (zm_184.1.1.cls ≠ "java/lang/invoke/MethodHandle" ∧ zm_184.1.1.cls ≠ "java/lang/invoke/VarHandle") && decide (zm_184.1.2.2.1 ≤ 40))) = true := by decide +kernel
theorem zo_184 : zz_okM zt_hh zp_P zt_cl zt_tf zt_fd zt_nf zt_T zt_N zm_184 := zz_w_okM zw_184 zb_184 (zz_places goodWord zq_184 zg_184)
set_option maxRecDepth 100000 in
theorem zd_185_0 : ∀ r ∈ zl_185_0, decode zm_185.1.2.1 r.1 = .ok (r.2.1, r.2.2.1) := by decide +kernel
set_option maxRecDepth 100000 in
theorem zq_185_0 : (zl_185_0.flatMap (zz_wr zt_hh zp_P zt_cl zm_185.1.1.cls)).map some = ([291, 758, 759, 867, 292, 913, 914, 912, 906, 14, 904, 292, 913, 914, 912, 292, 292, 1003, 1004, 1002, 1007, 1008, 1006, 291, 800, 801, 799, 1028, 781, 6, 779, 947, 22, 945, 292] : List Nat).map (fun i => lw_tbl[i]?) := by rfl
set_option maxRecDepth 100000 in
theorem zg_185_0 : (zl_185_0.flatMap (zz_wr zt_hh zp_P zt_cl zm_185.1.1.cls)).all goodWord = true := by decide +kernel
set_option maxRecDepth 100000 in
theorem zr_185_0 : (zl_185_0.flatMap (zz_wn zp_P zm_185.1.1.cls)).map some = ([] : List Nat).map (fun i => lw_tbl[i]?) := by rfl
set_option maxRecDepth 100000 in
theorem zs_185_0 : (zl_185_0.flatMap (zz_wn zp_P zm_185.1.1.cls)).all zz_isN = true := by decide +kernel
set_option maxRecDepth 100000 in
theorem zb_185_0 : zl_185_0.all (fun r => zz_wb zt_hh zp_P zt_cl zt_tf zt_fd zt_nf zm_185.1.1.cls zm_185.1.1.name r) = true := by decide +kernel
set_option maxRecDepth 100000 in
theorem zd_185_1 : ∀ r ∈ zl_185_1, decode zm_185.1.2.1 r.1 = .ok (r.2.1, r.2.2.1) := by decide +kernel
set_option maxRecDepth 100000 in
theorem zq_185_1 : (zl_185_1.flatMap (zz_wr zt_hh zp_P zt_cl zm_185.1.1.cls)).map some = ([913, 914, 912, 292, 913, 914, 912, 906, 14, 904, 292, 292, 1003, 1004, 1002, 1007, 1008, 1006] : List Nat).map (fun i => lw_tbl[i]?) := by rfl
set_option maxRecDepth 100000 in
theorem zg_185_1 : (zl_185_1.flatMap (zz_wr zt_hh zp_P zt_cl zm_185.1.1.cls)).all goodWord = true := by decide +kernel
set_option maxRecDepth 100000 in
theorem zr_185_1 : (zl_185_1.flatMap (zz_wn zp_P zm_185.1.1.cls)).map some = ([] : List Nat).map (fun i => lw_tbl[i]?) := by rfl
set_option maxRecDepth 100000 in
theorem zs_185_1 : (zl_185_1.flatMap (zz_wn zp_P zm_185.1.1.cls)).all zz_isN = true := by decide +kernel
set_option maxRecDepth 100000 in
theorem zb_185_1 : zl_185_1.all (fun r => zz_wb zt_hh zp_P zt_cl zt_tf zt_fd zt_nf zm_185.1.1.cls zm_185.1.1.name r) = true := by decide +kernel
set_option maxRecDepth 100000 in
theorem zy_185_0 : zl_185_0.all (fun r => zz_tb zt_hh zp_P zm_185 r) = true := by decide +kernel
set_option maxRecDepth 100000 in
theorem zy_185_1 : zl_185_1.all (fun r => zz_tb zt_hh zp_P zm_185 r) = true := by decide +kernel
theorem zw_185 : zz_okW zt_hh zp_P zt_cl zt_tf zt_fd zt_nf zt_T zt_N zm_185 := List.forall_mem_cons.mpr ⟨(zz_w_okL zd_185_0 zb_185_0 (zz_places goodWord zq_185_0 zg_185_0) (zz_places zz_isN zr_185_0 zs_185_0) zy_185_0), List.forall_mem_cons.mpr ⟨(zz_w_okL zd_185_1 zb_185_1 (zz_places goodWord zq_185_1 zg_185_1) (zz_places zz_isN zr_185_1 zs_185_1) zy_185_1), (fun _ h => absurd h List.not_mem_nil)⟩⟩
set_option maxRecDepth 100000 in
theorem zq_185 : [zz_cw zt_hh zm_185, Cond.initialized zm_185.1.1.cls].map some = ([1027, 217] : List Nat).map (fun i => lw_tbl[i]?) := by rfl
set_option maxRecDepth 100000 in
theorem zg_185 : [zz_cw zt_hh zm_185, Cond.initialized zm_185.1.1.cls].all goodWord = true := by decide +kernel
set_option maxRecDepth 100000 in
theorem zb_185 : (plainName zm_185.1.1.cls && (decide (zm_185.1.1.cls ≠ "java/lang/invoke/MethodHandle" ∧ zm_185.1.1.cls ≠ "java/lang/invoke/VarHandle") && decide (zm_185.1.2.2.1 ≤ 40))) = true := by decide +kernel
theorem zo_185 : zz_okM zt_hh zp_P zt_cl zt_tf zt_fd zt_nf zt_T zt_N zm_185 := zz_w_okM zw_185 zb_185 (zz_places goodWord zq_185 zg_185)
set_option maxRecDepth 100000 in
theorem zd_186_0 : ∀ r ∈ zl_186_0, decode zm_186.1.2.1 r.1 = .ok (r.2.1, r.2.2.1) := by decide +kernel
set_option maxRecDepth 100000 in
theorem zq_186_0 : (zl_186_0.flatMap (zz_wr zt_hh zp_P zt_cl zm_186.1.1.cls)).map some = ([935, 19, 933, 931, 18, 929, 291, 766, 767, 765, 291, 770, 771, 769, 974, 973, 291, 770, 771, 769, 291, 800, 801, 799] : List Nat).map (fun i => lw_tbl[i]?) := by rfl
set_option maxRecDepth 100000 in
theorem zg_186_0 : (zl_186_0.flatMap (zz_wr zt_hh zp_P zt_cl zm_186.1.1.cls)).all goodWord = true := by decide +kernel
set_option maxRecDepth 100000 in
theorem zr_186_0 : (zl_186_0.flatMap (zz_wn zp_P zm_186.1.1.cls)).map some = ([] : List Nat).map (fun i => lw_tbl[i]?) := by rfl
set_option maxRecDepth 100000 in
theorem zs_186_0 : (zl_186_0.flatMap (zz_wn zp_P zm_186.1.1.cls)).all zz_isN = true := by decide +kernel
set_option maxRecDepth 100000 in
theorem zb_186_0 : zl_186_0.all (fun r => zz_wb zt_hh zp_P zt_cl zt_tf zt_fd zt_nf zm_186.1.1.cls zm_186.1.1.name r) = true := by decide +kernel
set_option maxRecDepth 100000 in
theorem zd_186_1 : ∀ r ∈ zl_186_1, decode zm_186.1.2.1 r.1 = .ok (r.2.1, r.2.2.1) := by decide +kernel
set_option maxRecDepth 100000 in
theorem zq_186_1 : (zl_186_1.flatMap (zz_wr zt_hh zp_P zt_cl zm_186.1.1.cls)).map some = ([291, 758, 759, 867, 931, 18, 929, 292, 913, 914, 912] : List Nat).map (fun i => lw_tbl[i]?) := by rfl
set_option maxRecDepth 100000 in
theorem zg_186_1 : (zl_186_1.flatMap (zz_wr zt_hh zp_P zt_cl zm_186.1.1.cls)).all goodWord = true := by decide +kernel
set_option maxRecDepth 100000 in
theorem zr_186_1 : (zl_186_1.flatMap (zz_wn zp_P zm_186.1.1.cls)).map some = ([] : List Nat).map (fun i => lw_tbl[i]?) := by rfl
set_option maxRecDepth 100000 in
theorem zs_186_1 : (zl_186_1.flatMap (zz_wn zp_P zm_186.1.1.cls)).all zz_isN = true := by decide +kernel
set_option maxRecDepth 100000 in
theorem zb_186_1 : zl_186_1.all (fun r => zz_wb zt_hh zp_P zt_cl zt_tf zt_fd zt_nf zm_186.1.1.cls zm_186.1.1.name r) = true := by decide +kernel
set_option maxRecDepth 100000 in
theorem zy_186_0 : zl_186_0.all (fun r => zz_tb zt_hh zp_P zm_186 r) = true := by decide +kernel
set_option maxRecDepth 100000 in
theorem zy_186_1 : zl_186_1.all (fun r => zz_tb zt_hh zp_P zm_186 r) = true := by decide +kernel
theorem zw_186 : zz_okW zt_hh zp_P zt_cl zt_tf zt_fd zt_nf zt_T zt_N zm_186 := List.forall_mem_cons.mpr ⟨(zz_w_okL zd_186_0 zb_186_0 (zz_places goodWord zq_186_0 zg_186_0) (zz_places zz_isN zr_186_0 zs_186_0) zy_186_0), List.forall_mem_cons.mpr ⟨(zz_w_okL zd_186_1 zb_186_1 (zz_places goodWord zq_186_1 zg_186_1) (zz_places zz_isN zr_186_1 zs_186_1) zy_186_1), (fun _ h => absurd h List.not_mem_nil)⟩⟩
set_option maxRecDepth 100000 in
theorem zq_186 : [zz_cw zt_hh zm_186, Cond.initialized zm_186.1.1.cls].map some = ([932, 217] : List Nat).map (fun i => lw_tbl[i]?) := by rfl
set_option maxRecDepth 100000 in
theorem zg_186 : [zz_cw zt_hh zm_186, Cond.initialized zm_186.1.1.cls].all goodWord = true := by decide +kernel
set_option maxRecDepth 100000 in
theorem zb_186 : (plainName zm_186.1.1.cls && (decide (zm_186.1.1.cls ≠ "java/lang/invoke/MethodHandle" ∧ zm_186.1.1.cls ≠ "java/lang/invoke/VarHandle") && decide (zm_186.1.2.2.1 ≤ 40))) = true := by decide +kernel
theorem zo_186 : zz_okM zt_hh zp_P zt_cl zt_tf zt_fd zt_nf zt_T zt_N zm_186 := zz_w_okM zw_186 zb_186 (zz_places goodWord zq_186 zg_186)
set_option maxRecDepth 100000 in
theorem zd_187_0 : ∀ r ∈ zl_187_0, decode zm_187.1.2.1 r.1 = .ok (r.2.1, r.2.2.1) := by decide +kernel
set_option maxRecDepth 100000 in
theorem zq_187_0 : (zl_187_0.flatMap (zz_wr zt_hh zp_P zt_cl zm_187.1.1.cls)).map some = ([] : List Nat).map (fun i => lw_tbl[i]?) := by rfl
set_option maxRecDepth 100000 in
theorem zg_187_0 : (zl_187_0.flatMap (zz_wr zt_hh zp_P zt_cl zm_187.1.1.cls)).all goodWord = true := by decide +kernel
set_option maxRecDepth 100000 in
theorem zr_187_0 : (zl_187_0.flatMap (zz_wn zp_P zm_187.1.1.cls)).map some = ([] : List Nat).map (fun i => lw_tbl[i]?) := by rfl
set_option maxRecDepth 100000 in
theorem zs_187_0 : (zl_187_0.flatMap (zz_wn zp_P zm_187.1.1.cls)).all zz_isN = true := by decide +kernel
set_option maxRecDepth 100000 in
theorem zb_187_0 : zl_187_0.all (fun r => zz_wb zt_hh zp_P zt_cl zt_tf zt_fd zt_nf zm_187.1.1.cls zm_187.1.1.name r) = true := by decide +kernel
set_option maxRecDepth 100000 in
theorem zy_187_0 : zl_187_0.all (fun r => zz_tb zt_hh zp_P zm_187 r) = true := by decide +kernel
theorem zw_187 : zz_okW zt_hh zp_P zt_cl zt_tf zt_fd zt_nf zt_T zt_N zm_187 := List.forall_mem_cons.mpr ⟨(zz_w_okL zd_187_0 zb_187_0 (zz_places goodWord zq_187_0 zg_187_0) (zz_places zz_isN zr_187_0 zs_187_0) zy_187_0), (fun _ h => absurd h List.not_mem_nil)⟩
set_option maxRecDepth 100000 in
theorem zq_187 : [zz_cw zt_hh zm_187, Cond.initialized zm_187.1.1.cls].map some = ([975, 217] : List Nat).map (fun i => lw_tbl[i]?) := by rfl
set_option maxRecDepth 100000 in
theorem zg_187 : [zz_cw zt_hh zm_187, Cond.initialized zm_187.1.1.cls].all goodWord = true := by decide +kernel
set_option maxRecDepth 100000 in
theorem zb_187 : (plainName zm_187.1.1.cls && (decide (zm_187.1.1.cls ≠ "java/lang/invoke/MethodHandle" ∧ zm_187.1.1.cls ≠ "java/lang/invoke/VarHandle") && decide (zm_187.1.2.2.1 ≤ 40))) = true := by decide +kernel
theorem zo_187 : zz_okM zt_hh zp_P zt_cl zt_tf zt_fd zt_nf zt_T zt_N zm_187 := zz_w_okM zw_187 zb_187 (zz_places goodWord zq_187 zg_187)
set_option maxRecDepth 100000 in
theorem zd_188_0 : ∀ r ∈ zl_188_0, decode zm_188.1.2.1 r.1 = .ok (r.2.1, r.2.2.1) := by decide +kernel
set_option maxRecDepth 100000 in
theorem zq_188_0 : (zl_188_0.flatMap (zz_wr zt_hh zp_P zt_cl zm_188.1.1.cls)).map some = ([291, 770, 771, 769, 291, 800, 801, 799, 291, 758, 759, 867, 292, 913, 914, 912, 939, 20, 937, 292, 913, 914, 912, 291, 758, 759, 867, 939, 20, 937] : List Nat).map (fun i => lw_tbl[i]?) := by rfl
set_option maxRecDepth 100000 in
theorem zg_188_0 : (zl_188_0.flatMap (zz_wr zt_hh zp_P zt_cl zm_188.1.1.cls)).all goodWord = true := by decide +kernel
set_option maxRecDepth 100000 in
theorem zr_188_0 : (zl_188_0.flatMap (zz_wn zp_P zm_188.1.1.cls)).map some = ([] : List Nat).map (fun i => lw_tbl[i]?) := by rfl
set_option maxRecDepth 100000 in
theorem zs_188_0 : (zl_188_0.flatMap (zz_wn zp_P zm_188.1.1.cls)).all zz_isN = true := by decide +kernel
set_option maxRecDepth 100000 in
theorem zb_188_0 : zl_188_0.all (fun r => zz_wb zt_hh zp_P zt_cl zt_tf zt_fd zt_nf zm_188.1.1.cls zm_188.1.1.name r) = true := by decide +kernel
set_option maxRecDepth 100000 in
theorem zd_188_1 : ∀ r ∈ zl_188_1, decode zm_188.1.2.1 r.1 = .ok (r.2.1, r.2.2.1) := by decide +kernel
set_option maxRecDepth 100000 in
theorem zq_188_1 : (zl_188_1.flatMap (zz_wr zt_hh zp_P zt_cl zm_188.1.1.cls)).map some = ([292, 913, 914, 912, 292, 913, 914, 912, 939, 20, 937] : List Nat).map (fun i => lw_tbl[i]?) := by rfl
set_option maxRecDepth 100000 in
theorem zg_188_1 : (zl_188_1.flatMap (zz_wr zt_hh zp_P zt_cl zm_188.1.1.cls)).all goodWord = true := by decide +kernel
set_option maxRecDepth 100000 in
theorem zr_188_1 : (zl_188_1.flatMap (zz_wn zp_P zm_188.1.1.cls)).map some = ([] : List Nat).map (fun i => lw_tbl[i]?) := by rfl
set_option maxRecDepth 100000 in
theorem zs_188_1 : (zl_188_1.flatMap (zz_wn zp_P zm_188.1.1.cls)).all zz_isN = true := by decide +kernel
set_option maxRecDepth 100000 in
theorem zb_188_1 : zl_188_1.all (fun r => zz_wb zt_hh zp_P zt_cl zt_tf zt_fd zt_nf zm_188.1.1.cls zm_188.1.1.name r) = true := by decide +kernel
set_option maxRecDepth 100000 in
theorem zy_188_0 : zl_188_0.all (fun r => zz_tb zt_hh zp_P zm_188 r) = true := by decide +kernel
set_option maxRecDepth 100000 in
theorem zy_188_1 : zl_188_1.all (fun r => zz_tb zt_hh zp_P zm_188 r) = true := by decide +kernel
theorem zw_188 : zz_okW zt_hh zp_P zt_cl zt_tf zt_fd zt_nf zt_T zt_N zm_188 := List.forall_mem_cons.mpr ⟨(zz_w_okL zd_188_0 zb_188_0 (zz_places goodWord zq_188_0 zg_188_0) (zz_places zz_isN zr_188_0 zs_188_0) zy_188_0), List.forall_mem_cons.mpr ⟨(zz_w_okL zd_188_1 zb_188_1 (zz_places goodWord zq_188_1 zg_188_1) (zz_places zz_isN zr_188_1 zs_188_1) zy_188_1), (fun _ h => absurd h List.not_mem_nil)⟩⟩
set_option maxRecDepth 100000 in
theorem zq_188 : [zz_cw zt_hh zm_188, Cond.initialized zm_188.1.1.cls].map some = ([936, 217] : List Nat).map (fun i => lw_tbl[i]?) := by rfl
set_option maxRecDepth 100000 in
theorem zg_188 : [zz_cw zt_hh zm_188, Cond.initialized zm_188.1.1.cls].all goodWord = true := by decide +kernel
set_option maxRecDepth 100000 in
theorem zb_188 : (plainName zm_188.1.1.cls && (decide (zm_188.1.1.cls ≠ "java/lang/invoke/MethodHandle" ∧ zm_188.1.1.cls ≠ "java/lang/invoke/VarHandle") && decide (zm_188.1.2.2.1 ≤ 40))) = true := by decide +kernel
theorem zo_188 : zz_okM zt_hh zp_P zt_cl zt_tf zt_fd zt_nf zt_T zt_N zm_188 := zz_w_okM zw_188 zb_188 (zz_places goodWord zq_188 zg_188)
set_option maxRecDepth 100000 in
theorem zd_189_0 : ∀ r ∈ zl_189_0, decode zm_189.1.2.1 r.1 = .ok (r.2.1, r.2.2.1) := by decide +kernel
set_option maxRecDepth 100000 in
theorem zq_189_0 : (zl_189_0.flatMap (zz_wr zt_hh zp_P zt_cl zm_189.1.1.cls)).map some = ([943, 21, 941, 291, 766, 767, 765, 291, 770, 771, 769, 291, 800, 801, 799, 890, 11, 888, 931, 18, 929, 890, 11, 888, 292, 913, 914, 912] : List Nat).map (fun i => lw_tbl[i]?) := by rfl
set_option maxRecDepth 100000 in
theorem zg_189_0 : (zl_189_0.flatMap (zz_wr zt_hh zp_P zt_cl zm_189.1.1.cls)).all goodWord = true := by decide +kernel
set_option maxRecDepth 100000 in
theorem zr_189_0 : (zl_189_0.flatMap (zz_wn zp_P zm_189.1.1.cls)).map some = ([] : List Nat).map (fun i => lw_tbl[i]?) := by rfl
set_option maxRecDepth 100000 in
theorem zs_189_0 : (zl_189_0.flatMap (zz_wn zp_P zm_189.1.1.cls)).all zz_isN = true := by decide +kernel
set_option maxRecDepth 100000 in
theorem zb_189_0 : zl_189_0.all (fun r => zz_wb zt_hh zp_P zt_cl zt_tf zt_fd zt_nf zm_189.1.1.cls zm_189.1.1.name r) = true := by decide +kernel
set_option maxRecDepth 100000 in
theorem zy_189_0 : zl_189_0.all (fun r => zz_tb zt_hh zp_P zm_189 r) = true := by decide +kernel
theorem zw_189 : zz_okW zt_hh zp_P zt_cl zt_tf zt_fd zt_nf zt_T zt_N zm_189 := List.forall_mem_cons.mpr ⟨(zz_w_okL zd_189_0 zb_189_0 (zz_places goodWord zq_189_0 zg_189_0) (zz_places zz_isN zr_189_0 zs_189_0) zy_189_0), (fun _ h => absurd h List.not_mem_nil)⟩
set_option maxRecDepth 100000 in
theorem zq_189 : [zz_cw zt_hh zm_189, Cond.initialized zm_189.1.1.cls].map some = ([940, 217] : List Nat).map (fun i => lw_tbl[i]?) := by rfl
set_option maxRecDepth 100000 in
theorem zg_189 : [zz_cw zt_hh zm_189, Cond.initialized zm_189.1.1.cls].all goodWord = true := by decide +kernel
set_option maxRecDepth 100000 in
theorem zb_189 : (plainName zm_189.1.1.cls && (decide (zm_189.1.1.cls ≠ "java/lang/invoke/MethodHandle" ∧ zm_189.1.1.cls ≠ "java/lang/invoke/VarHandle") && decide (zm_189.1.2.2.1 ≤ 40))) = true := by decide +kernel
theorem zo_189 : zz_okM zt_hh zp_P zt_cl zt_tf zt_fd zt_nf zt_T zt_N zm_189 := zz_w_okM zw_189 zb_189 (zz_places goodWord zq_189 zg_189)
set_option maxRecDepth 100000 in
theorem zd_190_0 : ∀ r ∈ zl_190_0, decode zm_190.1.2.1 r.1 = .ok (r.2.1, r.2.2.1) := by decide +kernel
set_option maxRecDepth 100000 in
theorem zq_190_0 : (zl_190_0.flatMap (zz_wr zt_hh zp_P zt_cl zm_190.1.1.cls)).map some = ([291, 800, 801, 799, 291, 770, 771, 769, 292, 291, 788, 789, 787, 913, 914, 912, 291, 758, 759, 867, 291, 918, 919, 917, 923, 16, 921, 292, 947, 22, 945, 913, 914, 912] : List Nat).map (fun i => lw_tbl[i]?) := by rfl
set_option maxRecDepth 100000 in
theorem zg_190_0 : (zl_190_0.flatMap (zz_wr zt_hh zp_P zt_cl zm_190.1.1.cls)).all goodWord = true := by decide +kernel
set_option maxRecDepth 100000 in
theorem zr_190_0 : (zl_190_0.flatMap (zz_wn zp_P zm_190.1.1.cls)).map some = ([] : List Nat).map (fun i => lw_tbl[i]?) := by rfl
set_option maxRecDepth 100000 in
theorem zs_190_0 : (zl_190_0.flatMap (zz_wn zp_P zm_190.1.1.cls)).all zz_isN = true := by decide +kernel
set_option maxRecDepth 100000 in
theorem zb_190_0 : zl_190_0.all (fun r => zz_wb zt_hh zp_P zt_cl zt_tf zt_fd zt_nf zm_190.1.1.cls zm_190.1.1.name r) = true := by decide +kernel
set_option maxRecDepth 100000 in
theorem zd_190_1 : ∀ r ∈ zl_190_1, decode zm_190.1.2.1 r.1 = .ok (r.2.1, r.2.2.1) := by decide +kernel
set_option maxRecDepth 100000 in
theorem zq_190_1 : (zl_190_1.flatMap (zz_wr zt_hh zp_P zt_cl zm_190.1.1.cls)).map some = ([785, 7, 783, 951, 23, 949, 890, 11, 888, 931, 18, 929, 890, 11, 888, 927, 17, 925, 292, 913, 914, 912] : List Nat).map (fun i => lw_tbl[i]?) := by rfl
set_option maxRecDepth 100000 in
theorem zg_190_1 : (zl_190_1.flatMap (zz_wr zt_hh zp_P zt_cl zm_190.1.1.cls)).all goodWord = true := by decide +kernel
set_option maxRecDepth 100000 in
theorem zr_190_1 : (zl_190_1.flatMap (zz_wn zp_P zm_190.1.1.cls)).map some = ([] : List Nat).map (fun i => lw_tbl[i]?) := by rfl
set_option maxRecDepth 100000 in
theorem zs_190_1 : (zl_190_1.flatMap (zz_wn zp_P zm_190.1.1.cls)).all zz_isN = true := by decide +kernel
set_option maxRecDepth 100000 in
theorem zb_190_1 : zl_190_1.all (fun r => zz_wb zt_hh zp_P zt_cl zt_tf zt_fd zt_nf zm_190.1.1.cls zm_190.1.1.name r) = true := by decide +kernel
set_option maxRecDepth 100000 in
theorem zy_190_0 : zl_190_0.all (fun r => zz_tb zt_hh zp_P zm_190 r) = true := by decide +kernel
set_option maxRecDepth 100000 in
theorem zy_190_1 : zl_190_1.all (fun r => zz_tb zt_hh zp_P zm_190 r) = true := by decide +kernel
theorem zw_190 : zz_okW zt_hh zp_P zt_cl zt_tf zt_fd zt_nf zt_T zt_N zm_190 := List.forall_mem_cons.mpr ⟨(zz_w_okL zd_190_0 zb_190_0 (zz_places goodWord zq_190_0 zg_190_0) (zz_places zz_isN zr_190_0 zs_190_0) zy_190_0), List.forall_mem_cons.mpr ⟨(zz_w_okL zd_190_1 zb_190_1 (zz_places goodWord zq_190_1 zg_190_1) (zz_places zz_isN zr_190_1 zs_190_1) zy_190_1), (fun _ h => absurd h List.not_mem_nil)⟩⟩
set_option maxRecDepth 100000 in
theorem zq_190 : [zz_cw zt_hh zm_190, Cond.initialized zm_190.1.1.cls].map some = ([944, 217] : List Nat).map (fun i => lw_tbl[i]?) := by rfl
set_option maxRecDepth 100000 in
theorem zg_190 : [zz_cw zt_hh zm_190, Cond.initialized zm_190.1.1.cls].all goodWord = true := by decide +kernel
set_option maxRecDepth 100000 in
theorem zb_190 : (plainName zm_190.1.1.cls && (decide (zm_190.1.1.cls ≠ "java/lang/invoke/MethodHandle" ∧ zm_190.1.1.cls ≠ "java/lang/invoke/VarHandle") && decide (zm_190.1.2.2.1 ≤ 40))) = true := by decide +kernel
theorem zo_190 : zz_okM zt_hh zp_P zt_cl zt_tf zt_fd zt_nf zt_T zt_N zm_190 := zz_w_okM zw_190 zb_190 (zz_places goodWord zq_190 zg_190)
set_option maxRecDepth 100000 in
theorem zd_191_0 : ∀ r ∈ zl_191_0, decode zm_191.1.2.1 r.1 = .ok (r.2.1, r.2.2.1) := by decide +kernel
set_option maxRecDepth 100000 in
theorem zq_191_0 : (zl_191_0.flatMap (zz_wr zt_hh zp_P zt_cl zm_191.1.1.cls)).map some = ([291, 788, 789, 787, 291, 800, 801, 799, 291, 758, 759, 867, 927, 17, 925, 292, 913, 914, 912, 967, 25, 965] : List Nat).map (fun i => lw_tbl[i]?) := by rfl
set_option maxRecDepth 100000 in
theorem zg_191_0 : (zl_191_0.flatMap (zz_wr zt_hh zp_P zt_cl zm_191.1.1.cls)).all goodWord = true := by decide +kernel
set_option maxRecDepth 100000 in
theorem zr_191_0 : (zl_191_0.flatMap (zz_wn zp_P zm_191.1.1.cls)).map some = ([] : List Nat).map (fun i => lw_tbl[i]?) := by rfl
set_option maxRecDepth 100000 in
theorem zs_191_0 : (zl_191_0.flatMap (zz_wn zp_P zm_191.1.1.cls)).all zz_isN = true := by decide +kernel
set_option maxRecDepth 100000 in
theorem zb_191_0 : zl_191_0.all (fun r => zz_wb zt_hh zp_P zt_cl zt_tf zt_fd zt_nf zm_191.1.1.cls zm_191.1.1.name r) = true := by decide +kernel
set_option maxRecDepth 100000 in
theorem zy_191_0 : zl_191_0.all (fun r => zz_tb zt_hh zp_P zm_191 r) = true := by decide +kernel
theorem zw_191 : zz_okW zt_hh zp_P zt_cl zt_tf zt_fd zt_nf zt_T zt_N zm_191 := List.forall_mem_cons.mpr ⟨(zz_w_okL zd_191_0 zb_191_0 (zz_places goodWord zq_191_0 zg_191_0) (zz_places zz_isN zr_191_0 zs_191_0) zy_191_0), (fun _ h => absurd h List.not_mem_nil)⟩
set_option maxRecDepth 100000 in
theorem zq_191 : [zz_cw zt_hh zm_191, Cond.initialized zm_191.1.1.cls].map some = ([924, 217] : List Nat).map (fun i => lw_tbl[i]?) := by rfl
set_option maxRecDepth 100000 in
theorem zg_191 : [zz_cw zt_hh zm_191, Cond.initialized zm_191.1.1.cls].all goodWord = true := by decide +kernel
set_option maxRecDepth 100000 in
theorem zb_191 : (plainName zm_191.1.1.cls && (decide (zm_191.1.1.cls ≠ "java/lang/invoke/MethodHandle" ∧ zm_191.1.1.cls ≠ "java/lang/invoke/VarHandle") && decide (zm_191.1.2.2.1 ≤ 40))) = true := by decide +kernel
theorem zo_191 : zz_okM zt_hh zp_P zt_cl zt_tf zt_fd zt_nf zt_T zt_N zm_191 := zz_w_okM zw_191 zb_191 (zz_places goodWord zq_191 zg_191)
set_option maxRecDepth 100000 in
theorem zd_192_0 : ∀ r ∈ zl_192_0, decode zm_192.1.2.1 r.1 = .ok (r.2.1, r.2.2.1) := by decide +kernel
set_option maxRecDepth 100000 in
theorem zq_192_0 : (zl_192_0.flatMap (zz_wr zt_hh zp_P zt_cl zm_192.1.1.cls)).map some = ([954, 955, 953, 797, 8, 795, 291, 800, 801, 799, 291, 788, 789, 787, 291, 758, 759, 867, 957, 959, 957, 963, 24, 961] : List Nat).map (fun i => lw_tbl[i]?) := by rfl
set_option maxRecDepth 100000 in
theorem zg_192_0 : (zl_192_0.flatMap (zz_wr zt_hh zp_P zt_cl zm_192.1.1.cls)).all goodWord = true := by decide +kernel
set_option maxRecDepth 100000 in
theorem zr_192_0 : (zl_192_0.flatMap (zz_wn zp_P zm_192.1.1.cls)).map some = ([2597, 2598] : List Nat).map (fun i => lw_tbl[i]?) := by rfl
set_option maxRecDepth 100000 in
theorem zs_192_0 : (zl_192_0.flatMap (zz_wn zp_P zm_192.1.1.cls)).all zz_isN = true := by decide +kernel
set_option maxRecDepth 100000 in
theorem zb_192_0 : zl_192_0.all (fun r => zz_wb zt_hh zp_P zt_cl zt_tf zt_fd zt_nf zm_192.1.1.cls zm_192.1.1.name r) = true := by decide +kernel
set_option maxRecDepth 100000 in
theorem zd_192_1 : ∀ r ∈ zl_192_1, decode zm_192.1.2.1 r.1 = .ok (r.2.1, r.2.2.1) := by decide +kernel
set_option maxRecDepth 100000 in
theorem zq_192_1 : (zl_192_1.flatMap (zz_wr zt_hh zp_P zt_cl zm_192.1.1.cls)).map some = ([927, 17, 925, 971, 292, 913, 914, 912, 292, 913, 914, 912] : List Nat).map (fun i => lw_tbl[i]?) := by rfl
set_option maxRecDepth 100000 in
theorem zg_192_1 : (zl_192_1.flatMap (zz_wr zt_hh zp_P zt_cl zm_192.1.1.cls)).all goodWord = true := by decide +kernel
set_option maxRecDepth 100000 in
theorem zr_192_1 : (zl_192_1.flatMap (zz_wn zp_P zm_192.1.1.cls)).map some = ([] : List Nat).map (fun i => lw_tbl[i]?) := by rfl
set_option maxRecDepth 100000 in
theorem zs_192_1 : (zl_192_1.flatMap (zz_wn zp_P zm_192.1.1.cls)).all zz_isN = true := by decide +kernel
set_option maxRecDepth 100000 in
theorem zb_192_1 : zl_192_1.all (fun r => zz_wb zt_hh zp_P zt_cl zt_tf zt_fd zt_nf zm_192.1.1.cls zm_192.1.1.name r) = true := by decide +kernel
set_option maxRecDepth 100000 in
theorem zy_192_0 : zl_192_0.all (fun r => zz_tb zt_hh zp_P zm_192 r) = true := by decide +kernel
set_option maxRecDepth 100000 in
theorem zy_192_1 : zl_192_1.all (fun r => zz_tb zt_hh zp_P zm_192 r) = true := by decide +kernel
theorem zw_192 : zz_okW zt_hh zp_P zt_cl zt_tf zt_fd zt_nf zt_T zt_N zm_192 := List.forall_mem_cons.mpr ⟨(zz_w_okL zd_192_0 zb_192_0 (zz_places goodWord zq_192_0 zg_192_0) (zz_places zz_isN zr_192_0 zs_192_0) zy_192_0), List.forall_mem_cons.mpr ⟨(zz_w_okL zd_192_1 zb_192_1 (zz_places goodWord zq_192_1 zg_192_1) (zz_places zz_isN zr_192_1 zs_192_1) zy_192_1), (fun _ h => absurd h List.not_mem_nil)⟩⟩
set_option maxRecDepth 100000 in
theorem zq_192 : [zz_cw zt_hh zm_192, Cond.initialized zm_192.1.1.cls].map some = ([952, 217] : List Nat).map (fun i => lw_tbl[i]?) := by rfl
set_option maxRecDepth 100000 in
theorem zg_192 : [zz_cw zt_hh zm_192, Cond.initialized zm_192.1.1.cls].all goodWord = true := by decide +kernel
set_option maxRecDepth 100000 in
theorem zb_192 : (plainName zm_192.1.1.cls && (decide (zm_192.1.1.cls ≠ "java/lang/invoke/MethodHandle" ∧ zm_192.1.1.cls ≠ "java/lang/invoke/VarHandle") && decide (zm_192.1.2.2.1 ≤ 40))) = true := by decide +kernel
theorem zo_192 : zz_okM zt_hh zp_P zt_cl zt_tf zt_fd zt_nf zt_T zt_N zm_192 := zz_w_okM zw_192 zb_192 (zz_places goodWord zq_192 zg_192)
set_option maxRecDepth 100000 in
theorem zd_193_0 : ∀ r ∈ zl_193_0, decode zm_193.1.2.1 r.1 = .ok (r.2.1, r.2.2.1) := by decide +kernel
set_option maxRecDepth 100000 in
theorem zq_193_0 : (zl_193_0.flatMap (zz_wr zt_hh zp_P zt_cl zm_193.1.1.cls)).map some = ([890, 11, 888, 291, 770, 771, 769, 797, 8, 795, 291, 788, 789, 787, 291, 800, 801, 799, 291, 758, 759, 867, 890, 11, 888, 931, 18, 929] : List Nat).map (fun i => lw_tbl[i]?) := by rfl
set_option maxRecDepth 100000 in
theorem zg_193_0 : (zl_193_0.flatMap (zz_wr zt_hh zp_P zt_cl zm_193.1.1.cls)).all goodWord = true := by decide +kernel
set_option maxRecDepth 100000 in
theorem zr_193_0 : (zl_193_0.flatMap (zz_wn zp_P zm_193.1.1.cls)).map some = ([] : List Nat).map (fun i => lw_tbl[i]?) := by rfl
set_option maxRecDepth 100000 in
theorem zs_193_0 : (zl_193_0.flatMap (zz_wn zp_P zm_193.1.1.cls)).all zz_isN = true := by decide +kernel
set_option maxRecDepth 100000 in
theorem zb_193_0 : zl_193_0.all (fun r => zz_wb zt_hh zp_P zt_cl zt_tf zt_fd zt_nf zm_193.1.1.cls zm_193.1.1.name r) = true := by decide +kernel
set_option maxRecDepth 100000 in
theorem zd_193_1 : ∀ r ∈ zl_193_1, decode zm_193.1.2.1 r.1 = .ok (r.2.1, r.2.2.1) := by decide +kernel
set_option maxRecDepth 100000 in
theorem zq_193_1 : (zl_193_1.flatMap (zz_wr zt_hh zp_P zt_cl zm_193.1.1.cls)).map some = ([890, 11, 888, 292, 913, 914, 912, 292, 913, 914, 912, 967, 25, 965, 292, 913, 914, 912] : List Nat).map (fun i => lw_tbl[i]?) := by rfl
set_option maxRecDepth 100000 in
theorem zg_193_1 : (zl_193_1.flatMap (zz_wr zt_hh zp_P zt_cl zm_193.1.1.cls)).all goodWord = true := by decide +kernel
set_option maxRecDepth 100000 in
theorem zr_193_1 : (zl_193_1.flatMap (zz_wn zp_P zm_193.1.1.cls)).map some = ([] : List Nat).map (fun i => lw_tbl[i]?) := by rfl
set_option maxRecDepth 100000 in
theorem zs_193_1 : (zl_193_1.flatMap (zz_wn zp_P zm_193.1.1.cls)).all zz_isN = true := by decide +kernel
set_option maxRecDepth 100000 in
theorem zb_193_1 : zl_193_1.all (fun r => zz_wb zt_hh zp_P zt_cl zt_tf zt_fd zt_nf zm_193.1.1.cls zm_193.1.1.name r) = true := by decide +kernel
set_option maxRecDepth 100000 in
theorem zy_193_0 : zl_193_0.all (fun r => zz_tb zt_hh zp_P zm_193 r) = true := by decide +kernel
set_option maxRecDepth 100000 in
theorem zy_193_1 : zl_193_1.all (fun r => zz_tb zt_hh zp_P zm_193 r) = true := by decide +kernel
theorem zw_193 : zz_okW zt_hh zp_P zt_cl zt_tf zt_fd zt_nf zt_T zt_N zm_193 := List.forall_mem_cons.mpr ⟨(zz_w_okL zd_193_0 zb_193_0 (zz_places goodWord zq_193_0 zg_193_0) (zz_places zz_isN zr_193_0 zs_193_0) zy_193_0), List.forall_mem_cons.mpr ⟨(zz_w_okL zd_193_1 zb_193_1 (zz_places goodWord zq_193_1 zg_193_1) (zz_places zz_isN zr_193_1 zs_193_1) zy_193_1), (fun _ h => absurd h List.not_mem_nil)⟩⟩
set_option maxRecDepth 100000 in
theorem zq_193 : [zz_cw zt_hh zm_193, Cond.initialized zm_193.1.1.cls].map some = ([964, 217] : List Nat).map (fun i => lw_tbl[i]?) := by rfl
set_option maxRecDepth 100000 in
theorem zg_193 : [zz_cw zt_hh zm_193, Cond.initialized zm_193.1.1.cls].all goodWord = true := by decide +kernel
set_option maxRecDepth 100000 in
theorem zb_193 : (plainName zm_193.1.1.cls && (decide (zm_193.1.1.cls ≠ "java/lang/invoke/MethodHandle" ∧ zm_193.1.1.cls ≠ "java/lang/invoke/VarHandle") && decide (zm_193.1.2.2.1 ≤ 40))) = true := by decide +kernel
theorem zo_193 : zz_okM zt_hh zp_P zt_cl zt_tf zt_fd zt_nf zt_T zt_N zm_193 := zz_w_okM zw_193 zb_193 (zz_places goodWord zq_193 zg_193)
set_option maxRecDepth 100000 in
theorem zd_194_0 : ∀ r ∈ zl_194_0, decode zm_194.1.2.1 r.1 = .ok (r.2.1, r.2.2.1) := by decide +kernel
set_option maxRecDepth 100000 in
theorem zq_194_0 : (zl_194_0.flatMap (zz_wr zt_hh zp_P zt_cl zm_194.1.1.cls)).map some = ([890, 11, 888, 291, 770, 771, 769, 931, 18, 929, 291, 766, 767, 765, 291, 770, 771, 769, 797, 8, 795, 291, 758, 759, 867] : List Nat).map (fun i => lw_tbl[i]?) := by rfl
set_option maxRecDepth 100000 in
theorem zg_194_0 : (zl_194_0.flatMap (zz_wr zt_hh zp_P zt_cl zm_194.1.1.cls)).all goodWord = true := by decide +kernel
set_option maxRecDepth 100000 in
theorem zr_194_0 : (zl_194_0.flatMap (zz_wn zp_P zm_194.1.1.cls)).map some = ([] : List Nat).map (fun i => lw_tbl[i]?) := by rfl
set_option maxRecDepth 100000 in
theorem zs_194_0 : (zl_194_0.flatMap (zz_wn zp_P zm_194.1.1.cls)).all zz_isN = true := by decide +kernel
set_option maxRecDepth 100000 in
theorem zb_194_0 : zl_194_0.all (fun r => zz_wb zt_hh zp_P zt_cl zt_tf zt_fd zt_nf zm_194.1.1.cls zm_194.1.1.name r) = true := by decide +kernel
set_option maxRecDepth 100000 in
theorem zd_194_1 : ∀ r ∈ zl_194_1, decode zm_194.1.2.1 r.1 = .ok (r.2.1, r.2.2.1) := by decide +kernel
set_option maxRecDepth 100000 in
theorem zq_194_1 : (zl_194_1.flatMap (zz_wr zt_hh zp_P zt_cl zm_194.1.1.cls)).map some = ([931, 18, 929, 291, 770, 771, 769, 797, 8, 795, 890, 11, 888] : List Nat).map (fun i => lw_tbl[i]?) := by rfl
set_option maxRecDepth 100000 in
theorem zg_194_1 : (zl_194_1.flatMap (zz_wr zt_hh zp_P zt_cl zm_194.1.1.cls)).all goodWord = true := by decide +kernel
set_option maxRecDepth 100000 in
theorem zr_194_1 : (zl_194_1.flatMap (zz_wn zp_P zm_194.1.1.cls)).map some = ([] : List Nat).map (fun i => lw_tbl[i]?) := by rfl
set_option maxRecDepth 100000 in
theorem zs_194_1 : (zl_194_1.flatMap (zz_wn zp_P zm_194.1.1.cls)).all zz_isN = true := by decide +kernel
set_option maxRecDepth 100000 in
theorem zb_194_1 : zl_194_1.all (fun r => zz_wb zt_hh zp_P zt_cl zt_tf zt_fd zt_nf zm_194.1.1.cls zm_194.1.1.name r) = true := by decide +kernel
set_option maxRecDepth 100000 in
theorem zy_194_0 : zl_194_0.all (fun r => zz_tb zt_hh zp_P zm_194 r) = true := by decide +kernel
set_option maxRecDepth 100000 in
theorem zy_194_1 : zl_194_1.all (fun r => zz_tb zt_hh zp_P zm_194 r) = true := by decide +kernel
theorem zw_194 : zz_okW zt_hh zp_P zt_cl zt_tf zt_fd zt_nf zt_T zt_N zm_194 := List.forall_mem_cons.mpr ⟨(zz_w_okL zd_194_0 zb_194_0 (zz_places goodWord zq_194_0 zg_194_0) (zz_places zz_isN zr_194_0 zs_194_0) zy_194_0), List.forall_mem_cons.mpr ⟨(zz_w_okL zd_194_1 zb_194_1 (zz_places goodWord zq_194_1 zg_194_1) (zz_places zz_isN zr_194_1 zs_194_1) zy_194_1), (fun _ h => absurd h List.not_mem_nil)⟩⟩
set_option maxRecDepth 100000 in
theorem zq_194 : [zz_cw zt_hh zm_194, Cond.initialized zm_194.1.1.cls].map some = ([928, 217] : List Nat).map (fun i => lw_tbl[i]?) := by rfl
set_option maxRecDepth 100000 in
theorem zg_194 : [zz_cw zt_hh zm_194, Cond.initialized zm_194.1.1.cls].all goodWord = true := by decide +kernel
set_option maxRecDepth 100000 in
theorem zb_194 : (plainName zm_194.1.1.cls && (decide (zm_194.1.1.cls ≠ "java/lang/invoke/MethodHandle" ∧ zm_194.1.1.cls ≠ "java/lang/invoke/VarHandle") && decide (zm_194.1.2.2.1 ≤ 40))) = true := by decide +kernel
theorem zo_194 : zz_okM zt_hh zp_P zt_cl zt_tf zt_fd zt_nf zt_T zt_N zm_194 := zz_w_okM zw_194 zb_194 (zz_places goodWord zq_194 zg_194)
set_option maxRecDepth 100000 in
theorem zd_195_0 : ∀ r ∈ zl_195_0, decode zm_195.1.2.1 r.1 = .ok (r.2.1, r.2.2.1) := by decide +kernel
set_option maxRecDepth 100000 in
theorem zq_195_0 : (zl_195_0.flatMap (zz_wr zt_hh zp_P zt_cl zm_195.1.1.cls)).map some = ([291, 770, 771, 769, 797, 8, 795, 291, 788, 789, 787, 877, 876, 898, 13, 896, 877, 876, 295] : List Nat).map (fun i => lw_tbl[i]?) := by rfl
set_option maxRecDepth 100000 in
theorem zg_195_0 : (zl_195_0.flatMap (zz_wr zt_hh zp_P zt_cl zm_195.1.1.cls)).all goodWord = true := by decide +kernel
set_option maxRecDepth 100000 in
theorem zr_195_0 : (zl_195_0.flatMap (zz_wn zp_P zm_195.1.1.cls)).map some = ([] : List Nat).map (fun i => lw_tbl[i]?) := by rfl
set_option maxRecDepth 100000 in
theorem zs_195_0 : (zl_195_0.flatMap (zz_wn zp_P zm_195.1.1.cls)).all zz_isN = true := by decide +kernel
set_option maxRecDepth 100000 in
theorem zb_195_0 : zl_195_0.all (fun r => zz_wb zt_hh zp_P zt_cl zt_tf zt_fd zt_nf zm_195.1.1.cls zm_195.1.1.name r) = true := by decide +kernel
set_option maxRecDepth 100000 in
theorem zd_195_1 : ∀ r ∈ zl_195_1, decode zm_195.1.2.1 r.1 = .ok (r.2.1, r.2.2.1) := by decide +kernel
set_option maxRecDepth 100000 in
theorem zq_195_1 : (zl_195_1.flatMap (zz_wr zt_hh zp_P zt_cl zm_195.1.1.cls)).map some = ([797, 8, 795, 294, 295, 295, 295, 295, 291, 758, 759, 867] : List Nat).map (fun i => lw_tbl[i]?) := by rfl
set_option maxRecDepth 100000 in
theorem zg_195_1 : (zl_195_1.flatMap (zz_wr zt_hh zp_P zt_cl zm_195.1.1.cls)).all goodWord = true := by decide +kernel
set_option maxRecDepth 100000 in
theorem zr_195_1 : (zl_195_1.flatMap (zz_wn zp_P zm_195.1.1.cls)).map some = ([] : List Nat).map (fun i => lw_tbl[i]?) := by rfl
set_option maxRecDepth 100000 in
theorem zs_195_1 : (zl_195_1.flatMap (zz_wn zp_P zm_195.1.1.cls)).all zz_isN = true := by decide +kernel
set_option maxRecDepth 100000 in
theorem zb_195_1 : zl_195_1.all (fun r => zz_wb zt_hh zp_P zt_cl zt_tf zt_fd zt_nf zm_195.1.1.cls zm_195.1.1.name r) = true := by decide +kernel
set_option maxRecDepth 100000 in
theorem zy_195_0 : zl_195_0.all (fun r => zz_tb zt_hh zp_P zm_195 r) = true := by decide +kernel
set_option maxRecDepth 100000 in
theorem zy_195_1 : zl_195_1.all (fun r => zz_tb zt_hh zp_P zm_195 r) = true := by decide +kernel
theorem zw_195 : zz_okW zt_hh zp_P zt_cl zt_tf zt_fd zt_nf zt_T zt_N zm_195 := List.forall_mem_cons.mpr ⟨(zz_w_okL zd_195_0 zb_195_0 (zz_places goodWord zq_195_0 zg_195_0) (zz_places zz_isN zr_195_0 zs_195_0) zy_195_0), List.forall_mem_cons.mpr ⟨(zz_w_okL zd_195_1 zb_195_1 (zz_places goodWord zq_195_1 zg_195_1) (zz_places zz_isN zr_195_1 zs_195_1) zy_195_1), (fun _ h => absurd h List.not_mem_nil)⟩⟩
set_option maxRecDepth 100000 in
theorem zq_195 : [zz_cw zt_hh zm_195, Cond.initialized zm_195.1.1.cls].map some = ([948, 217] : List Nat).map (fun i => lw_tbl[i]?) := by rfl
set_option maxRecDepth 100000 in
theorem zg_195 : [zz_cw zt_hh zm_195, Cond.initialized zm_195.1.1.cls].all goodWord = true := by decide +kernel
set_option maxRecDepth 100000 in
theorem zb_195 : (plainName zm_195.1.1.cls && (decide (zm_195.1.1.cls ≠ "java/lang/invoke/MethodHandle" ∧ zm_195.1.1.cls ≠ "java/lang/invoke/VarHandle") && decide (zm_195.1.2.2.1 ≤ 40))) = true := by decide +kernel
theorem zo_195 : zz_okM zt_hh zp_P zt_cl zt_tf zt_fd zt_nf zt_T zt_N zm_195 := zz_w_okM zw_195 zb_195 (zz_places goodWord zq_195 zg_195)
set_option maxRecDepth 100000 in
theorem zd_196_0 : ∀ r ∈ zl_196_0, decode zm_196.1.2.1 r.1 = .ok (r.2.1, r.2.2.1) := by decide +kernel
set_option maxRecDepth 100000 in
theorem zq_196_0 : (zl_196_0.flatMap (zz_wr zt_hh zp_P zt_cl zm_196.1.1.cls)).map some = ([295, 294] : List Nat).map (fun i => lw_tbl[i]?) := by rfl
set_option maxRecDepth 100000 in
theorem zg_196_0 : (zl_196_0.flatMap (zz_wr zt_hh zp_P zt_cl zm_196.1.1.cls)).all goodWord = true := by decide +kernel
set_option maxRecDepth 100000 in
theorem zr_196_0 : (zl_196_0.flatMap (zz_wn zp_P zm_196.1.1.cls)).map some = ([] : List Nat).map (fun i => lw_tbl[i]?) := by rfl
set_option maxRecDepth 100000 in
theorem zs_196_0 : (zl_196_0.flatMap (zz_wn zp_P zm_196.1.1.cls)).all zz_isN = true := by decide +kernel
set_option maxRecDepth 100000 in
theorem zb_196_0 : zl_196_0.all (fun r => zz_wb zt_hh zp_P zt_cl zt_tf zt_fd zt_nf zm_196.1.1.cls zm_196.1.1.name r) = true := by decide +kernel
set_option maxRecDepth 100000 in
theorem zy_196_0 : zl_196_0.all (fun r => zz_tb zt_hh zp_P zm_196 r) = true := by decide +kernel
theorem zw_196 : zz_okW zt_hh zp_P zt_cl zt_tf zt_fd zt_nf zt_T zt_N zm_196 := List.forall_mem_cons.mpr ⟨(zz_w_okL zd_196_0 zb_196_0 (zz_places goodWord zq_196_0 zg_196_0) (zz_places zz_isN zr_196_0 zs_196_0) zy_196_0), (fun _ h => absurd h List.not_mem_nil)⟩
set_option maxRecDepth 100000 in
theorem zq_196 : [zz_cw zt_hh zm_196, Cond.initialized zm_196.1.1.cls].map some = ([899, 217] : List Nat).map (fun i => lw_tbl[i]?) := by rfl
set_option maxRecDepth 100000 in
theorem zg_196 : [zz_cw zt_hh zm_196, Cond.initialized zm_196.1.1.cls].all goodWord = true := by decide +kernel
set_option maxRecDepth 100000 in
theorem zb_196 : (plainName zm_196.1.1.cls && (decide (zm_196.1.1.cls ≠ "java/lang/invoke/MethodHandle" ∧ zm_196.1.1.cls ≠ "java/lang/invoke/VarHandle") && decide (zm_196.1.2.2.1 ≤ 40))) = true := by decide +kernel
theorem zo_196 : zz_okM zt_hh zp_P zt_cl zt_tf zt_fd zt_nf zt_T zt_N zm_196 := zz_w_okM zw_196 zb_196 (zz_places goodWord zq_196 zg_196)
set_option maxRecDepth 100000 in
theorem zd_197_0 : ∀ r ∈ zl_197_0, decode zm_197.1.2.1 r.1 = .ok (r.2.1, r.2.2.1) := by decide +kernel
set_option maxRecDepth 100000 in
theorem zq_197_0 : (zl_197_0.flatMap (zz_wr zt_hh zp_P zt_cl zm_197.1.1.cls)).map some = ([879] : List Nat).map (fun i => lw_tbl[i]?) := by rfl
set_option maxRecDepth 100000 in
theorem zg_197_0 : (zl_197_0.flatMap (zz_wr zt_hh zp_P zt_cl zm_197.1.1.cls)).all goodWord = true := by decide +kernel
set_option maxRecDepth 100000 in
theorem zr_197_0 : (zl_197_0.flatMap (zz_wn zp_P zm_197.1.1.cls)).map some = ([] : List Nat).map (fun i => lw_tbl[i]?) := by rfl
set_option maxRecDepth 100000 in
theorem zs_197_0 : (zl_197_0.flatMap (zz_wn zp_P zm_197.1.1.cls)).all zz_isN = true := by decide +kernel
set_option maxRecDepth 100000 in
theorem zb_197_0 : zl_197_0.all (fun r => zz_wb zt_hh zp_P zt_cl zt_tf zt_fd zt_nf zm_197.1.1.cls zm_197.1.1.name r) = true := by decide +kernel
set_option maxRecDepth 100000 in
theorem zy_197_0 : zl_197_0.all (fun r => zz_tb zt_hh zp_P zm_197 r) = true := by decide +kernel
theorem zw_197 : zz_okW zt_hh zp_P zt_cl zt_tf zt_fd zt_nf zt_T zt_N zm_197 := List.forall_mem_cons.mpr ⟨(zz_w_okL zd_197_0 zb_197_0 (zz_places goodWord zq_197_0 zg_197_0) (zz_places zz_isN zr_197_0 zs_197_0) zy_197_0), (fun _ h => absurd h List.not_mem_nil)⟩
set_option maxRecDepth 100000 in
theorem zq_197 : [zz_cw zt_hh zm_197, Cond.initialized zm_197.1.1.cls].map some = ([878, 217] : List Nat).map (fun i => lw_tbl[i]?) := by rfl
set_option maxRecDepth 100000 in
theorem zg_197 : [zz_cw zt_hh zm_197, Cond.initialized zm_197.1.1.cls].all goodWord = true := by decide +kernel
set_option maxRecDepth 100000 in
theorem zb_197 : (plainName zm_197.1.1.cls && (decide (zm_197.1.1.cls ≠ "java/lang/invoke/MethodHandle" ∧ zm_197.1.1.cls ≠ "java/lang/invoke/VarHandle") && decide (zm_197.1.2.2.1 ≤ 40))) = true := by decide +kernel
theorem zo_197 : zz_okM zt_hh zp_P zt_cl zt_tf zt_fd zt_nf zt_T zt_N zm_197 := zz_w_okM zw_197 zb_197 (zz_places goodWord zq_197 zg_197)
set_option maxRecDepth 100000 in
theorem zd_198_0 : ∀ r ∈ zl_198_0, decode zm_198.1.2.1 r.1 = .ok (r.2.1, r.2.2.1) := by decide +kernel
set_option maxRecDepth 100000 in
theorem zq_198_0 : (zl_198_0.flatMap (zz_wr zt_hh zp_P zt_cl zm_198.1.1.cls)).map some = ([300, 296, 296, 300, 638, 969, 296, 297, 300, 646, 970, 297, 298, 300, 638, 969, 298, 299, 300] : List Nat).map (fun i => lw_tbl[i]?) := by rfl
set_option maxRecDepth 100000 in
theorem zg_198_0 : (zl_198_0.flatMap (zz_wr zt_hh zp_P zt_cl zm_198.1.1.cls)).all goodWord = true := by decide +kernel
set_option maxRecDepth 100000 in
theorem zr_198_0 : (zl_198_0.flatMap (zz_wn zp_P zm_198.1.1.cls)).map some = ([] : List Nat).map (fun i => lw_tbl[i]?) := by rfl
set_option maxRecDepth 100000 in
theorem zs_198_0 : (zl_198_0.flatMap (zz_wn zp_P zm_198.1.1.cls)).all zz_isN = true := by decide +kernel
set_option maxRecDepth 100000 in
theorem zb_198_0 : zl_198_0.all (fun r => zz_wb zt_hh zp_P zt_cl zt_tf zt_fd zt_nf zm_198.1.1.cls zm_198.1.1.name r) = true := by decide +kernel
set_option maxRecDepth 100000 in
theorem zd_198_1 : ∀ r ∈ zl_198_1, decode zm_198.1.2.1 r.1 = .ok (r.2.1, r.2.2.1) := by decide +kernel
set_option maxRecDepth 100000 in
theorem zq_198_1 : (zl_198_1.flatMap (zz_wr zt_hh zp_P zt_cl zm_198.1.1.cls)).map some = ([638, 969, 299, 296, 300, 297, 300, 298, 300, 299, 300, 300, 300] : List Nat).map (fun i => lw_tbl[i]?) := by rfl
set_option maxRecDepth 100000 in
theorem zg_198_1 : (zl_198_1.flatMap (zz_wr zt_hh zp_P zt_cl zm_198.1.1.cls)).all goodWord = true := by decide +kernel
set_option maxRecDepth 100000 in
theorem zr_198_1 : (zl_198_1.flatMap (zz_wn zp_P zm_198.1.1.cls)).map some = ([] : List Nat).map (fun i => lw_tbl[i]?) := by rfl
set_option maxRecDepth 100000 in
theorem zs_198_1 : (zl_198_1.flatMap (zz_wn zp_P zm_198.1.1.cls)).all zz_isN = true := by decide +kernel
set_option maxRecDepth 100000 in
theorem zb_198_1 : zl_198_1.all (fun r => zz_wb zt_hh zp_P zt_cl zt_tf zt_fd zt_nf zm_198.1.1.cls zm_198.1.1.name r) = true := by decide +kernel
set_option maxRecDepth 100000 in
theorem zy_198_0 : zl_198_0.all (fun r => zz_tb zt_hh zp_P zm_198 r) = true := by decide +kernel
set_option maxRecDepth 100000 in
theorem zy_198_1 : zl_198_1.all (fun r => zz_tb zt_hh zp_P zm_198 r) = true := by decide +kernel
theorem zw_198 : zz_okW zt_hh zp_P zt_cl zt_tf zt_fd zt_nf zt_T zt_N zm_198 := List.forall_mem_cons.mpr ⟨(zz_w_okL zd_198_0 zb_198_0 (zz_places goodWord zq_198_0 zg_198_0) (zz_places zz_isN zr_198_0 zs_198_0) zy_198_0), List.forall_mem_cons.mpr ⟨(zz_w_okL zd_198_1 zb_198_1 (zz_places goodWord zq_198_1 zg_198_1) (zz_places zz_isN zr_198_1 zs_198_1) zy_198_1), (fun _ h => absurd h List.not_mem_nil)⟩⟩
set_option maxRecDepth 100000 in
theorem zq_198 : [zz_cw zt_hh zm_198, Cond.initialized zm_198.1.1.cls].map some = ([968, 217] : List Nat).map (fun i => lw_tbl[i]?) := by rfl
set_option maxRecDepth 100000 in
theorem zg_198 : [zz_cw zt_hh zm_198, Cond.initialized zm_198.1.1.cls].all goodWord = true := by decide +kernel
set_option maxRecDepth 100000 in
theorem zb_198 : (plainName zm_198.1.1.cls && (decide (zm_198.1.1.cls ≠ "java/lang/invoke/MethodHandle" ∧ zm_198.1.1.cls ≠ "java/lang/invoke/VarHandle") && decide (zm_198.1.2.2.1 ≤ 40))) = true := by decide +kernel
theorem zo_198 : zz_okM zt_hh zp_P zt_cl zt_tf zt_fd zt_nf zt_T zt_N zm_198 := zz_w_okM zw_198 zb_198 (zz_places goodWord zq_198 zg_198)
set_option maxRecDepth 100000 in
theorem zd_199_0 : ∀ r ∈ zl_199_0, decode zm_199.1.2.1 r.1 = .ok (r.2.1, r.2.2.1) := by decide +kernel
set_option maxRecDepth 100000 in
theorem zq_199_0 : (zl_199_0.flatMap (zz_wr zt_hh zp_P zt_cl zm_199.1.1.cls)).map some = ([291, 788, 789, 787, 792, 791] : List Nat).map (fun i => lw_tbl[i]?) := by rfl
set_option maxRecDepth 100000 in
theorem zg_199_0 : (zl_199_0.flatMap (zz_wr zt_hh zp_P zt_cl zm_199.1.1.cls)).all goodWord = true := by decide +kernel
set_option maxRecDepth 100000 in
theorem zr_199_0 : (zl_199_0.flatMap (zz_wn zp_P zm_199.1.1.cls)).map some = ([] : List Nat).map (fun i => lw_tbl[i]?) := by rfl
set_option maxRecDepth 100000 in
theorem zs_199_0 : (zl_199_0.flatMap (zz_wn zp_P zm_199.1.1.cls)).all zz_isN = true := by decide +kernel
set_option maxRecDepth 100000 in
theorem zb_199_0 : zl_199_0.all (fun r => zz_wb zt_hh zp_P zt_cl zt_tf zt_fd zt_nf zm_199.1.1.cls zm_199.1.1.name r) = true := by decide +kernel
set_option maxRecDepth 100000 in
theorem zy_199_0 : zl_199_0.all (fun r => zz_tb zt_hh zp_P zm_199 r) = true := by decide +kernel
theorem zw_199 : zz_okW zt_hh zp_P zt_cl zt_tf zt_fd zt_nf zt_T zt_N zm_199 := List.forall_mem_cons.mpr ⟨(zz_w_okL zd_199_0 zb_199_0 (zz_places goodWord zq_199_0 zg_199_0) (zz_places zz_isN zr_199_0 zs_199_0) zy_199_0), (fun _ h => absurd h List.not_mem_nil)⟩
set_option maxRecDepth 100000 in
theorem zq_199 : [zz_cw zt_hh zm_199, Cond.initialized zm_199.1.1.cls].map some = ([786, 217] : List Nat).map (fun i => lw_tbl[i]?) := by rfl
set_option maxRecDepth 100000 in
theorem zg_199 : [zz_cw zt_hh zm_199, Cond.initialized zm_199.1.1.cls].all goodWord = true := by decide +kernel
set_option maxRecDepth 100000 in
theorem zb_199 : (plainName zm_199.1.1.cls && (decide (zm_199.1.1.cls ≠ "java/lang/invoke/MethodHandle" ∧ zm_199.1.1.cls ≠ "java/lang/invoke/VarHandle") && decide (zm_199.1.2.2.1 ≤ 40))) = true := by decide +kernel
theorem zo_199 : zz_okM zt_hh zp_P zt_cl zt_tf zt_fd zt_nf zt_T zt_N zm_199 := zz_w_okM zw_199 zb_199 (zz_places goodWord zq_199 zg_199)
set_option maxRecDepth 100000 in
theorem zd_200_0 : ∀ r ∈ zl_200_0, decode zm_200.1.2.1 r.1 = .ok (r.2.1, r.2.2.1) := by decide +kernel
set_option maxRecDepth 100000 in
theorem zq_200_0 : (zl_200_0.flatMap (zz_wr zt_hh zp_P zt_cl zm_200.1.1.cls)).map some = ([291, 770, 771, 769, 785, 7, 783, 797, 8, 795, 291, 758, 759, 867] : List Nat).map (fun i => lw_tbl[i]?) := by rfl
set_option maxRecDepth 100000 in
theorem zg_200_0 : (zl_200_0.flatMap (zz_wr zt_hh zp_P zt_cl zm_200.1.1.cls)).all goodWord = true := by decide +kernel
set_option maxRecDepth 100000 in
theorem zr_200_0 : (zl_200_0.flatMap (zz_wn zp_P zm_200.1.1.cls)).map some = ([] : List Nat).map (fun i => lw_tbl[i]?) := by rfl
set_option maxRecDepth 100000 in
theorem zs_200_0 : (zl_200_0.flatMap (zz_wn zp_P zm_200.1.1.cls)).all zz_isN = true := by decide +kernel
set_option maxRecDepth 100000 in
theorem zb_200_0 : zl_200_0.all (fun r => zz_wb zt_hh zp_P zt_cl zt_tf zt_fd zt_nf zm_200.1.1.cls zm_200.1.1.name r) = true := by decide +kernel
set_option maxRecDepth 100000 in
theorem zy_200_0 : zl_200_0.all (fun r => zz_tb zt_hh zp_P zm_200 r) = true := by decide +kernel
theorem zw_200 : zz_okW zt_hh zp_P zt_cl zt_tf zt_fd zt_nf zt_T zt_N zm_200 := List.forall_mem_cons.mpr ⟨(zz_w_okL zd_200_0 zb_200_0 (zz_places goodWord zq_200_0 zg_200_0) (zz_places zz_isN zr_200_0 zs_200_0) zy_200_0), (fun _ h => absurd h List.not_mem_nil)⟩
set_option maxRecDepth 100000 in
theorem zq_200 : [zz_cw zt_hh zm_200, Cond.initialized zm_200.1.1.cls].map some = ([782, 217] : List Nat).map (fun i => lw_tbl[i]?) := by rfl
set_option maxRecDepth 100000 in
theorem zg_200 : [zz_cw zt_hh zm_200, Cond.initialized zm_200.1.1.cls].all goodWord = true := by decide +kernel
set_option maxRecDepth 100000 in
theorem zb_200 : (plainName zm_200.1.1.cls && (decide (zm_200.1.1.cls ≠ "java/lang/invoke/MethodHandle" ∧ zm_200.1.1.cls ≠ "java/lang/invoke/VarHandle") && decide (zm_200.1.2.2.1 ≤ 40))) = true := by decide +kernel
theorem zo_200 : zz_okM zt_hh zp_P zt_cl zt_tf zt_fd zt_nf zt_T zt_N zm_200 := zz_w_okM zw_200 zb_200 (zz_places goodWord zq_200 zg_200)
set_option maxRecDepth 100000 in
theorem zd_201_0 : ∀ r ∈ zl_201_0, decode zm_201.1.2.1 r.1 = .ok (r.2.1, r.2.2.1) := by decide +kernel
set_option maxRecDepth 100000 in
theorem zq_201_0 : (zl_201_0.flatMap (zz_wr zt_hh zp_P zt_cl zm_201.1.1.cls)).map some = ([291, 770, 771, 769, 797, 8, 795, 293, 797, 8, 795, 293, 293] : List Nat).map (fun i => lw_tbl[i]?) := by rfl
set_option maxRecDepth 100000 in
theorem zg_201_0 : (zl_201_0.flatMap (zz_wr zt_hh zp_P zt_cl zm_201.1.1.cls)).all goodWord = true := by decide +kernel
set_option maxRecDepth 100000 in
theorem zr_201_0 : (zl_201_0.flatMap (zz_wn zp_P zm_201.1.1.cls)).map some = ([] : List Nat).map (fun i => lw_tbl[i]?) := by rfl
set_option maxRecDepth 100000 in
theorem zs_201_0 : (zl_201_0.flatMap (zz_wn zp_P zm_201.1.1.cls)).all zz_isN = true := by decide +kernel
set_option maxRecDepth 100000 in
theorem zb_201_0 : zl_201_0.all (fun r => zz_wb zt_hh zp_P zt_cl zt_tf zt_fd zt_nf zm_201.1.1.cls zm_201.1.1.name r) = true := by decide +kernel
set_option maxRecDepth 100000 in
theorem zd_201_1 : ∀ r ∈ zl_201_1, decode zm_201.1.2.1 r.1 = .ok (r.2.1, r.2.2.1) := by decide +kernel
set_option maxRecDepth 100000 in
theorem zq_201_1 : (zl_201_1.flatMap (zz_wr zt_hh zp_P zt_cl zm_201.1.1.cls)).map some = ([293, 293, 291, 758, 759, 867] : List Nat).map (fun i => lw_tbl[i]?) := by rfl
set_option maxRecDepth 100000 in
theorem zg_201_1 : (zl_201_1.flatMap (zz_wr zt_hh zp_P zt_cl zm_201.1.1.cls)).all goodWord = true := by decide +kernel
set_option maxRecDepth 100000 in
theorem zr_201_1 : (zl_201_1.flatMap (zz_wn zp_P zm_201.1.1.cls)).map some = ([] : List Nat).map (fun i => lw_tbl[i]?) := by rfl
set_option maxRecDepth 100000 in
theorem zs_201_1 : (zl_201_1.flatMap (zz_wn zp_P zm_201.1.1.cls)).all zz_isN = true := by decide +kernel
set_option maxRecDepth 100000 in
theorem zb_201_1 : zl_201_1.all (fun r => zz_wb zt_hh zp_P zt_cl zt_tf zt_fd zt_nf zm_201.1.1.cls zm_201.1.1.name r) = true := by decide +kernel
set_option maxRecDepth 100000 in
theorem zy_201_0 : zl_201_0.all (fun r => zz_tb zt_hh zp_P zm_201 r) = true := by decide +kernel
set_option maxRecDepth 100000 in
theorem zy_201_1 : zl_201_1.all (fun r => zz_tb zt_hh zp_P zm_201 r) = true := by decide +kernel
theorem zw_201 : zz_okW zt_hh zp_P zt_cl zt_tf zt_fd zt_nf zt_T zt_N zm_201 := List.forall_mem_cons.mpr ⟨(zz_w_okL zd_201_0 zb_201_0 (zz_places goodWord zq_201_0 zg_201_0) (zz_places zz_isN zr_201_0 zs_201_0) zy_201_0), List.forall_mem_cons.mpr ⟨(zz_w_okL zd_201_1 zb_201_1 (zz_places goodWord zq_201_1 zg_201_1) (zz_places zz_isN zr_201_1 zs_201_1) zy_201_1), (fun _ h => absurd h List.not_mem_nil)⟩⟩
set_option maxRecDepth 100000 in
theorem zq_201 : [zz_cw zt_hh zm_201, Cond.initialized zm_201.1.1.cls].map some = ([891, 217] : List Nat).map (fun i => lw_tbl[i]?) := by rfl
set_option maxRecDepth 100000 in
theorem zg_201 : [zz_cw zt_hh zm_201, Cond.initialized zm_201.1.1.cls].all goodWord = true := by decide +kernel
set_option maxRecDepth 100000 in
theorem zb_201 : (plainName zm_201.1.1.cls && (decide (zm_201.1.1.cls ≠ "java/lang/invoke/MethodHandle" ∧ zm_201.1.1.cls ≠ "java/lang/invoke/VarHandle") && decide (zm_201.1.2.2.1 ≤ 40))) = true := by decide +kernel
theorem zo_201 : zz_okM zt_hh zp_P zt_cl zt_tf zt_fd zt_nf zt_T zt_N zm_201 := zz_w_okM zw_201 zb_201 (zz_places goodWord zq_201 zg_201)
set_option maxRecDepth 100000 in
theorem zd_202_0 : ∀ r ∈ zl_202_0, decode zm_202.1.2.1 r.1 = .ok (r.2.1, r.2.2.1) := by decide +kernel
set_option maxRecDepth 100000 in
theorem zq_202_0 : (zl_202_0.flatMap (zz_wr zt_hh zp_P zt_cl zm_202.1.1.cls)).map some = ([291, 770, 771, 769, 301, 291, 800, 801, 799, 302, 620, 241, 238, 824, 833, 835, 838, 840, 825, 826, 249, 250, 827, 832, 836, 856, 814, 857, 816, 858, 818, 828, 830, 820, 852, 853, 855, 820, 843, 844, 845, 846, 846, 847, 848, 849, 849, 850, 851, 852, 842, 803, 811, 812, 813, 815, 817, 819, 823, 822, 821] : List Nat).map (fun i => lw_tbl[i]?) := by rfl
set_option maxRecDepth 100000 in
theorem zg_202_0 : (zl_202_0.flatMap (zz_wr zt_hh zp_P zt_cl zm_202.1.1.cls)).all goodWord = true := by decide +kernel
set_option maxRecDepth 100000 in
theorem zr_202_0 : (zl_202_0.flatMap (zz_wn zp_P zm_202.1.1.cls)).map some = ([806, 808, 810, 804] : List Nat).map (fun i => lw_tbl[i]?) := by rfl
set_option maxRecDepth 100000 in
theorem zs_202_0 : (zl_202_0.flatMap (zz_wn zp_P zm_202.1.1.cls)).all zz_isN = true := by decide +kernel
set_option maxRecDepth 100000 in
theorem zb_202_0 : zl_202_0.all (fun r => zz_wb zt_hh zp_P zt_cl zt_tf zt_fd zt_nf zm_202.1.1.cls zm_202.1.1.name r) = true := by decide +kernel
set_option maxRecDepth 100000 in
theorem zy_202_0 : zl_202_0.all (fun r => zz_tb zt_hh zp_P zm_202 r) = true := by decide +kernel
theorem zw_202 : zz_okW zt_hh zp_P zt_cl zt_tf zt_fd zt_nf zt_T zt_N zm_202 := List.forall_mem_cons.mpr ⟨(zz_w_okL zd_202_0 zb_202_0 (zz_places goodWord zq_202_0 zg_202_0) (zz_places zz_isN zr_202_0 zs_202_0) zy_202_0), (fun _ h => absurd h List.not_mem_nil)⟩
set_option maxRecDepth 100000 in
theorem zq_202 : [zz_cw zt_hh zm_202, Cond.initialized zm_202.1.1.cls].map some = ([798, 217] : List Nat).map (fun i => lw_tbl[i]?) := by rfl
set_option maxRecDepth 100000 in
theorem zg_202 : [zz_cw zt_hh zm_202, Cond.initialized zm_202.1.1.cls].all goodWord = true := by decide +kernel
set_option maxRecDepth 100000 in
theorem zb_202 : (plainName zm_202.1.1.cls && (decide (zm_202.1.1.cls ≠ "java/lang/invoke/MethodHandle" ∧ zm_202.1.1.cls ≠ "java/lang/invoke/VarHandle") && decide (zm_202.1.2.2.1 ≤ 40))) = true := by decide +kernel
theorem zo_202 : zz_okM zt_hh zp_P zt_cl zt_tf zt_fd zt_nf zt_T zt_N zm_202 := zz_w_okM zw_202 zb_202 (zz_places goodWord zq_202 zg_202)
set_option maxRecDepth 100000 in
theorem zd_203_0 : ∀ r ∈ zl_203_0, decode zm_203.1.2.1 r.1 = .ok (r.2.1, r.2.2.1) := by decide +kernel
set_option maxRecDepth 100000 in
theorem zq_203_0 : (zl_203_0.flatMap (zz_wr zt_hh zp_P zt_cl zm_203.1.1.cls)).map some = ([337] : List Nat).map (fun i => lw_tbl[i]?) := by rfl
set_option maxRecDepth 100000 in
theorem zg_203_0 : (zl_203_0.flatMap (zz_wr zt_hh zp_P zt_cl zm_203.1.1.cls)).all goodWord = true := by decide +kernel
set_option maxRecDepth 100000 in
theorem zr_203_0 : (zl_203_0.flatMap (zz_wn zp_P zm_203.1.1.cls)).map some = ([] : List Nat).map (fun i => lw_tbl[i]?) := by rfl
set_option maxRecDepth 100000 in
theorem zs_203_0 : (zl_203_0.flatMap (zz_wn zp_P zm_203.1.1.cls)).all zz_isN = true := by decide +kernel
set_option maxRecDepth 100000 in
theorem zb_203_0 : zl_203_0.all (fun r => zz_wb zt_hh zp_P zt_cl zt_tf zt_fd zt_nf zm_203.1.1.cls zm_203.1.1.name r) = true := by decide +kernel
set_option maxRecDepth 100000 in
theorem zy_203_0 : zl_203_0.all (fun r => zz_tb zt_hh zp_P zm_203 r) = true := by decide +kernel
theorem zw_203 : zz_okW zt_hh zp_P zt_cl zt_tf zt_fd zt_nf zt_T zt_N zm_203 := List.forall_mem_cons.mpr ⟨(zz_w_okL zd_203_0 zb_203_0 (zz_places goodWord zq_203_0 zg_203_0) (zz_places zz_isN zr_203_0 zs_203_0) zy_203_0), (fun _ h => absurd h List.not_mem_nil)⟩
set_option maxRecDepth 100000 in
theorem zq_203 : [zz_cw zt_hh zm_203, Cond.initialized zm_203.1.1.cls].map some = ([1005, 219] : List Nat).map (fun i => lw_tbl[i]?) := by rfl
set_option maxRecDepth 100000 in
theorem zg_203 : [zz_cw zt_hh zm_203, Cond.initialized zm_203.1.1.cls].all goodWord = true := by decide +kernel
set_option maxRecDepth 100000 in
theorem zb_203 : (plainName zm_203.1.1.cls && (decide (zm_203.1.1.cls ≠ "java/lang/invoke/MethodHandle" ∧ zm_203.1.1.cls ≠ "java/lang/invoke/VarHandle") && decide (zm_203.1.2.2.1 ≤ 40))) = true := by decide +kernel
theorem zo_203 : zz_okM zt_hh zp_P zt_cl zt_tf zt_fd zt_nf zt_T zt_N zm_203 := zz_w_okM zw_203 zb_203 (zz_places goodWord zq_203 zg_203)
set_option maxRecDepth 100000 in
theorem zd_204_0 : ∀ r ∈ zl_204_0, decode zm_204.1.2.1 r.1 = .ok (r.2.1, r.2.2.1) := by decide +kernel
set_option maxRecDepth 100000 in
theorem zq_204_0 : (zl_204_0.flatMap (zz_wr zt_hh zp_P zt_cl zm_204.1.1.cls)).map some = ([338, 340, 337] : List Nat).map (fun i => lw_tbl[i]?) := by rfl
set_option maxRecDepth 100000 in
theorem zg_204_0 : (zl_204_0.flatMap (zz_wr zt_hh zp_P zt_cl zm_204.1.1.cls)).all goodWord = true := by decide +kernel
set_option maxRecDepth 100000 in
theorem zr_204_0 : (zl_204_0.flatMap (zz_wn zp_P zm_204.1.1.cls)).map some = ([] : List Nat).map (fun i => lw_tbl[i]?) := by rfl
set_option maxRecDepth 100000 in
theorem zs_204_0 : (zl_204_0.flatMap (zz_wn zp_P zm_204.1.1.cls)).all zz_isN = true := by decide +kernel
set_option maxRecDepth 100000 in
theorem zb_204_0 : zl_204_0.all (fun r => zz_wb zt_hh zp_P zt_cl zt_tf zt_fd zt_nf zm_204.1.1.cls zm_204.1.1.name r) = true := by decide +kernel
set_option maxRecDepth 100000 in
theorem zy_204_0 : zl_204_0.all (fun r => zz_tb zt_hh zp_P zm_204 r) = true := by decide +kernel
theorem zw_204 : zz_okW zt_hh zp_P zt_cl zt_tf zt_fd zt_nf zt_T zt_N zm_204 := List.forall_mem_cons.mpr ⟨(zz_w_okL zd_204_0 zb_204_0 (zz_places goodWord zq_204_0 zg_204_0) (zz_places zz_isN zr_204_0 zs_204_0) zy_204_0), (fun _ h => absurd h List.not_mem_nil)⟩
set_option maxRecDepth 100000 in
theorem zq_204 : [zz_cw zt_hh zm_204, Cond.initialized zm_204.1.1.cls].map some = ([1171, 219] : List Nat).map (fun i => lw_tbl[i]?) := by rfl
set_option maxRecDepth 100000 in
theorem zg_204 : [zz_cw zt_hh zm_204, Cond.initialized zm_204.1.1.cls].all goodWord = true := by decide +kernel
set_option maxRecDepth 100000 in
theorem zb_204 : (plainName zm_204.1.1.cls && (decide (zm_204.1.1.cls ≠ "java/lang/invoke/MethodHandle" ∧ zm_204.1.1.cls ≠ "java/lang/invoke/VarHandle") && decide (zm_204.1.2.2.1 ≤ 40))) = true := by decide +kernel
theorem zo_204 : zz_okM zt_hh zp_P zt_cl zt_tf zt_fd zt_nf zt_T zt_N zm_204 := zz_w_okM zw_204 zb_204 (zz_places goodWord zq_204 zg_204)
set_option maxRecDepth 100000 in
theorem zd_205_0 : ∀ r ∈ zl_205_0, decode zm_205.1.2.1 r.1 = .ok (r.2.1, r.2.2.1) := by decide +kernel
set_option maxRecDepth 100000 in
theorem zq_205_0 : (zl_205_0.flatMap (zz_wr zt_hh zp_P zt_cl zm_205.1.1.cls)).map some = ([338, 339] : List Nat).map (fun i => lw_tbl[i]?) := by rfl
set_option maxRecDepth 100000 in
theorem zg_205_0 : (zl_205_0.flatMap (zz_wr zt_hh zp_P zt_cl zm_205.1.1.cls)).all goodWord = true := by decide +kernel
set_option maxRecDepth 100000 in
theorem zr_205_0 : (zl_205_0.flatMap (zz_wn zp_P zm_205.1.1.cls)).map some = ([] : List Nat).map (fun i => lw_tbl[i]?) := by rfl
set_option maxRecDepth 100000 in
theorem zs_205_0 : (zl_205_0.flatMap (zz_wn zp_P zm_205.1.1.cls)).all zz_isN = true := by decide +kernel
set_option maxRecDepth 100000 in
theorem zb_205_0 : zl_205_0.all (fun r => zz_wb zt_hh zp_P zt_cl zt_tf zt_fd zt_nf zm_205.1.1.cls zm_205.1.1.name r) = true := by decide +kernel
set_option maxRecDepth 100000 in
theorem zy_205_0 : zl_205_0.all (fun r => zz_tb zt_hh zp_P zm_205 r) = true := by decide +kernel
theorem zw_205 : zz_okW zt_hh zp_P zt_cl zt_tf zt_fd zt_nf zt_T zt_N zm_205 := List.forall_mem_cons.mpr ⟨(zz_w_okL zd_205_0 zb_205_0 (zz_places goodWord zq_205_0 zg_205_0) (zz_places zz_isN zr_205_0 zs_205_0) zy_205_0), (fun _ h => absurd h List.not_mem_nil)⟩
set_option maxRecDepth 100000 in
theorem zq_205 : [zz_cw zt_hh zm_205, Cond.initialized zm_205.1.1.cls].map some = ([883, 219] : List Nat).map (fun i => lw_tbl[i]?) := by rfl
set_option maxRecDepth 100000 in
theorem zg_205 : [zz_cw zt_hh zm_205, Cond.initialized zm_205.1.1.cls].all goodWord = true := by decide +kernel
set_option maxRecDepth 100000 in
theorem zb_205 : (plainName zm_205.1.1.cls && (decide (zm_205.1.1.cls ≠ "java/lang/invoke/MethodHandle" ∧ zm_205.1.1.cls ≠ "java/lang/invoke/VarHandle") && decide (zm_205.1.2.2.1 ≤ 40))) = true := by decide +kernel
theorem zo_205 : zz_okM zt_hh zp_P zt_cl zt_tf zt_fd zt_nf zt_T zt_N zm_205 := zz_w_okM zw_205 zb_205 (zz_places goodWord zq_205 zg_205)
set_option maxRecDepth 100000 in
theorem zd_206_0 : ∀ r ∈ zl_206_0, decode zm_206.1.2.1 r.1 = .ok (r.2.1, r.2.2.1) := by decide +kernel
set_option maxRecDepth 100000 in
theorem zq_206_0 : (zl_206_0.flatMap (zz_wr zt_hh zp_P zt_cl zm_206.1.1.cls)).map some = ([338, 339, 338, 340, 338, 337, 343, 338, 338, 338] : List Nat).map (fun i => lw_tbl[i]?) := by rfl
set_option maxRecDepth 100000 in
theorem zg_206_0 : (zl_206_0.flatMap (zz_wr zt_hh zp_P zt_cl zm_206.1.1.cls)).all goodWord = true := by decide +kernel
set_option maxRecDepth 100000 in
theorem zr_206_0 : (zl_206_0.flatMap (zz_wn zp_P zm_206.1.1.cls)).map some = ([] : List Nat).map (fun i => lw_tbl[i]?) := by rfl
set_option maxRecDepth 100000 in
theorem zs_206_0 : (zl_206_0.flatMap (zz_wn zp_P zm_206.1.1.cls)).all zz_isN = true := by decide +kernel
set_option maxRecDepth 100000 in
theorem zb_206_0 : zl_206_0.all (fun r => zz_wb zt_hh zp_P zt_cl zt_tf zt_fd zt_nf zm_206.1.1.cls zm_206.1.1.name r) = true := by decide +kernel
set_option maxRecDepth 100000 in
theorem zy_206_0 : zl_206_0.all (fun r => zz_tb zt_hh zp_P zm_206 r) = true := by decide +kernel
theorem zw_206 : zz_okW zt_hh zp_P zt_cl zt_tf zt_fd zt_nf zt_T zt_N zm_206 := List.forall_mem_cons.mpr ⟨(zz_w_okL zd_206_0 zb_206_0 (zz_places goodWord zq_206_0 zg_206_0) (zz_places zz_isN zr_206_0 zs_206_0) zy_206_0), (fun _ h => absurd h List.not_mem_nil)⟩
set_option maxRecDepth 100000 in
theorem zq_206 : [zz_cw zt_hh zm_206, Cond.initialized zm_206.1.1.cls].map some = ([887, 219] : List Nat).map (fun i => lw_tbl[i]?) := by rfl
set_option maxRecDepth 100000 in
theorem zg_206 : [zz_cw zt_hh zm_206, Cond.initialized zm_206.1.1.cls].all goodWord = true := by decide +kernel
set_option maxRecDepth 100000 in
theorem zb_206 : (plainName zm_206.1.1.cls && (decide (zm_206.1.1.cls ≠ "java/lang/invoke/MethodHandle" ∧ zm_206.1.1.cls ≠ "java/lang/invoke/VarHandle") && decide (zm_206.1.2.2.1 ≤ 40))) = true := by decide +kernel
theorem zo_206 : zz_okM zt_hh zp_P zt_cl zt_tf zt_fd zt_nf zt_T zt_N zm_206 := zz_w_okM zw_206 zb_206 (zz_places goodWord zq_206 zg_206)
set_option maxRecDepth 100000 in
theorem zd_207_0 : ∀ r ∈ zl_207_0, decode zm_207.1.2.1 r.1 = .ok (r.2.1, r.2.2.1) := by decide +kernel
set_option maxRecDepth 100000 in
theorem zq_207_0 : (zl_207_0.flatMap (zz_wr zt_hh zp_P zt_cl zm_207.1.1.cls)).map some = ([338, 341, 338] : List Nat).map (fun i => lw_tbl[i]?) := by rfl
set_option maxRecDepth 100000 in
theorem zg_207_0 : (zl_207_0.flatMap (zz_wr zt_hh zp_P zt_cl zm_207.1.1.cls)).all goodWord = true := by decide +kernel
set_option maxRecDepth 100000 in
theorem zr_207_0 : (zl_207_0.flatMap (zz_wn zp_P zm_207.1.1.cls)).map some = ([] : List Nat).map (fun i => lw_tbl[i]?) := by rfl
set_option maxRecDepth 100000 in
theorem zs_207_0 : (zl_207_0.flatMap (zz_wn zp_P zm_207.1.1.cls)).all zz_isN = true := by decide +kernel
set_option maxRecDepth 100000 in
theorem zb_207_0 : zl_207_0.all (fun r => zz_wb zt_hh zp_P zt_cl zt_tf zt_fd zt_nf zm_207.1.1.cls zm_207.1.1.name r) = true := by decide +kernel
set_option maxRecDepth 100000 in
theorem zy_207_0 : zl_207_0.all (fun r => zz_tb zt_hh zp_P zm_207 r) = true := by decide +kernel
theorem zw_207 : zz_okW zt_hh zp_P zt_cl zt_tf zt_fd zt_nf zt_T zt_N zm_207 := List.forall_mem_cons.mpr ⟨(zz_w_okL zd_207_0 zb_207_0 (zz_places goodWord zq_207_0 zg_207_0) (zz_places zz_isN zr_207_0 zs_207_0) zy_207_0), (fun _ h => absurd h List.not_mem_nil)⟩
set_option maxRecDepth 100000 in
theorem zq_207 : [zz_cw zt_hh zm_207, Cond.initialized zm_207.1.1.cls].map some = ([903, 219] : List Nat).map (fun i => lw_tbl[i]?) := by rfl
set_option maxRecDepth 100000 in
theorem zg_207 : [zz_cw zt_hh zm_207, Cond.initialized zm_207.1.1.cls].all goodWord = true := by decide +kernel
set_option maxRecDepth 100000 in
theorem zb_207 : (plainName zm_207.1.1.cls && (decide (zm_207.1.1.cls ≠ "java/lang/invoke/MethodHandle" ∧ zm_207.1.1.cls ≠ "java/lang/invoke/VarHandle") && decide (zm_207.1.2.2.1 ≤ 40))) = true := by decide +kernel
theorem zo_207 : zz_okM zt_hh zp_P zt_cl zt_tf zt_fd zt_nf zt_T zt_N zm_207 := zz_w_okM zw_207 zb_207 (zz_places goodWord zq_207 zg_207)
set_option maxRecDepth 100000 in
theorem zd_208_0 : ∀ r ∈ zl_208_0, decode zm_208.1.2.1 r.1 = .ok (r.2.1, r.2.2.1) := by decide +kernel
set_option maxRecDepth 100000 in
theorem zq_208_0 : (zl_208_0.flatMap (zz_wr zt_hh zp_P zt_cl zm_208.1.1.cls)).map some = ([338, 342, 338] : List Nat).map (fun i => lw_tbl[i]?) := by rfl
set_option maxRecDepth 100000 in
theorem zg_208_0 : (zl_208_0.flatMap (zz_wr zt_hh zp_P zt_cl zm_208.1.1.cls)).all goodWord = true := by decide +kernel
set_option maxRecDepth 100000 in
theorem zr_208_0 : (zl_208_0.flatMap (zz_wn zp_P zm_208.1.1.cls)).map some = ([] : List Nat).map (fun i => lw_tbl[i]?) := by rfl
set_option maxRecDepth 100000 in
theorem zs_208_0 : (zl_208_0.flatMap (zz_wn zp_P zm_208.1.1.cls)).all zz_isN = true := by decide +kernel
set_option maxRecDepth 100000 in
theorem zb_208_0 : zl_208_0.all (fun r => zz_wb zt_hh zp_P zt_cl zt_tf zt_fd zt_nf zm_208.1.1.cls zm_208.1.1.name r) = true := by decide +kernel
set_option maxRecDepth 100000 in
theorem zy_208_0 : zl_208_0.all (fun r => zz_tb zt_hh zp_P zm_208 r) = true := by decide +kernel
theorem zw_208 : zz_okW zt_hh zp_P zt_cl zt_tf zt_fd zt_nf zt_T zt_N zm_208 := List.forall_mem_cons.mpr ⟨(zz_w_okL zd_208_0 zb_208_0 (zz_places goodWord zq_208_0 zg_208_0) (zz_places zz_isN zr_208_0 zs_208_0) zy_208_0), (fun _ h => absurd h List.not_mem_nil)⟩
set_option maxRecDepth 100000 in
theorem zq_208 : [zz_cw zt_hh zm_208, Cond.initialized zm_208.1.1.cls].map some = ([1033, 219] : List Nat).map (fun i => lw_tbl[i]?) := by rfl
set_option maxRecDepth 100000 in
theorem zg_208 : [zz_cw zt_hh zm_208, Cond.initialized zm_208.1.1.cls].all goodWord = true := by decide +kernel
set_option maxRecDepth 100000 in
theorem zb_208 : (plainName zm_208.1.1.cls && (decide (zm_208.1.1.cls ≠ "java/lang/invoke/MethodHandle" ∧ zm_208.1.1.cls ≠ "java/lang/invoke/VarHandle") && decide (zm_208.1.2.2.1 ≤ 40))) = true := by decide +kernel
theorem zo_208 : zz_okM zt_hh zp_P zt_cl zt_tf zt_fd zt_nf zt_T zt_N zm_208 := zz_w_okM zw_208 zb_208 (zz_places goodWord zq_208 zg_208)
set_option maxRecDepth 100000 in
theorem zd_209_0 : ∀ r ∈ zl_209_0, decode zm_209.1.2.1 r.1 = .ok (r.2.1, r.2.2.1) := by decide +kernel
set_option maxRecDepth 100000 in
theorem zq_209_0 : (zl_209_0.flatMap (zz_wr zt_hh zp_P zt_cl zm_209.1.1.cls)).map some = ([337, 334, 334, 337, 638, 916, 334, 335, 337, 638, 916, 335, 336, 337, 638, 916, 336, 334, 337] : List Nat).map (fun i => lw_tbl[i]?) := by rfl
set_option maxRecDepth 100000 in
theorem zg_209_0 : (zl_209_0.flatMap (zz_wr zt_hh zp_P zt_cl zm_209.1.1.cls)).all goodWord = true := by decide +kernel
set_option maxRecDepth 100000 in
theorem zr_209_0 : (zl_209_0.flatMap (zz_wn zp_P zm_209.1.1.cls)).map some = ([] : List Nat).map (fun i => lw_tbl[i]?) := by rfl
set_option maxRecDepth 100000 in
theorem zs_209_0 : (zl_209_0.flatMap (zz_wn zp_P zm_209.1.1.cls)).all zz_isN = true := by decide +kernel
set_option maxRecDepth 100000 in
theorem zb_209_0 : zl_209_0.all (fun r => zz_wb zt_hh zp_P zt_cl zt_tf zt_fd zt_nf zm_209.1.1.cls zm_209.1.1.name r) = true := by decide +kernel
set_option maxRecDepth 100000 in
theorem zd_209_1 : ∀ r ∈ zl_209_1, decode zm_209.1.2.1 r.1 = .ok (r.2.1, r.2.2.1) := by decide +kernel
set_option maxRecDepth 100000 in
theorem zq_209_1 : (zl_209_1.flatMap (zz_wr zt_hh zp_P zt_cl zm_209.1.1.cls)).map some = ([335, 337, 336, 337, 337, 337, 337] : List Nat).map (fun i => lw_tbl[i]?) := by rfl
set_option maxRecDepth 100000 in
theorem zg_209_1 : (zl_209_1.flatMap (zz_wr zt_hh zp_P zt_cl zm_209.1.1.cls)).all goodWord = true := by decide +kernel
set_option maxRecDepth 100000 in
theorem zr_209_1 : (zl_209_1.flatMap (zz_wn zp_P zm_209.1.1.cls)).map some = ([] : List Nat).map (fun i => lw_tbl[i]?) := by rfl
set_option maxRecDepth 100000 in
theorem zs_209_1 : (zl_209_1.flatMap (zz_wn zp_P zm_209.1.1.cls)).all zz_isN = true := by decide +kernel
set_option maxRecDepth 100000 in
theorem zb_209_1 : zl_209_1.all (fun r => zz_wb zt_hh zp_P zt_cl zt_tf zt_fd zt_nf zm_209.1.1.cls zm_209.1.1.name r) = true := by decide +kernel
set_option maxRecDepth 100000 in
theorem zy_209_0 : zl_209_0.all (fun r => zz_tb zt_hh zp_P zm_209 r) = true := by decide +kernel
set_option maxRecDepth 100000 in
theorem zy_209_1 : zl_209_1.all (fun r => zz_tb zt_hh zp_P zm_209 r) = true := by decide +kernel
theorem zw_209 : zz_okW zt_hh zp_P zt_cl zt_tf zt_fd zt_nf zt_T zt_N zm_209 := List.forall_mem_cons.mpr ⟨(zz_w_okL zd_209_0 zb_209_0 (zz_places goodWord zq_209_0 zg_209_0) (zz_places zz_isN zr_209_0 zs_209_0) zy_209_0), List.forall_mem_cons.mpr ⟨(zz_w_okL zd_209_1 zb_209_1 (zz_places goodWord zq_209_1 zg_209_1) (zz_places zz_isN zr_209_1 zs_209_1) zy_209_1), (fun _ h => absurd h List.not_mem_nil)⟩⟩
set_option maxRecDepth 100000 in
theorem zq_209 : [zz_cw zt_hh zm_209, Cond.initialized zm_209.1.1.cls].map some = ([915, 219] : List Nat).map (fun i => lw_tbl[i]?) := by rfl
set_option maxRecDepth 100000 in
theorem zg_209 : [zz_cw zt_hh zm_209, Cond.initialized zm_209.1.1.cls].all goodWord = true := by decide +kernel
set_option maxRecDepth 100000 in
theorem zb_209 : (plainName zm_209.1.1.cls && (decide (zm_209.1.1.cls ≠ "java/lang/invoke/MethodHandle" ∧ zm_209.1.1.cls ≠ "java/lang/invoke/VarHandle") && decide (zm_209.1.2.2.1 ≤ 40))) = true := by decide +kernel
theorem zo_209 : zz_okM zt_hh zp_P zt_cl zt_tf zt_fd zt_nf zt_T zt_N zm_209 := zz_w_okM zw_209 zb_209 (zz_places goodWord zq_209 zg_209)
set_option maxRecDepth 100000 in
theorem zd_210_0 : ∀ r ∈ zl_210_0, decode zm_210.1.2.1 r.1 = .ok (r.2.1, r.2.2.1) := by decide +kernel
set_option maxRecDepth 100000 in
theorem zq_210_0 : (zl_210_0.flatMap (zz_wr zt_hh zp_P zt_cl zm_210.1.1.cls)).map some = ([337, 335] : List Nat).map (fun i => lw_tbl[i]?) := by rfl
set_option maxRecDepth 100000 in
theorem zg_210_0 : (zl_210_0.flatMap (zz_wr zt_hh zp_P zt_cl zm_210.1.1.cls)).all goodWord = true := by decide +kernel
set_option maxRecDepth 100000 in
theorem zr_210_0 : (zl_210_0.flatMap (zz_wn zp_P zm_210.1.1.cls)).map some = ([] : List Nat).map (fun i => lw_tbl[i]?) := by rfl
set_option maxRecDepth 100000 in
theorem zs_210_0 : (zl_210_0.flatMap (zz_wn zp_P zm_210.1.1.cls)).all zz_isN = true := by decide +kernel
set_option maxRecDepth 100000 in
theorem zb_210_0 : zl_210_0.all (fun r => zz_wb zt_hh zp_P zt_cl zt_tf zt_fd zt_nf zm_210.1.1.cls zm_210.1.1.name r) = true := by decide +kernel
set_option maxRecDepth 100000 in
theorem zy_210_0 : zl_210_0.all (fun r => zz_tb zt_hh zp_P zm_210 r) = true := by decide +kernel
theorem zw_210 : zz_okW zt_hh zp_P zt_cl zt_tf zt_fd zt_nf zt_T zt_N zm_210 := List.forall_mem_cons.mpr ⟨(zz_w_okL zd_210_0 zb_210_0 (zz_places goodWord zq_210_0 zg_210_0) (zz_places zz_isN zr_210_0 zs_210_0) zy_210_0), (fun _ h => absurd h List.not_mem_nil)⟩
set_option maxRecDepth 100000 in
theorem zq_210 : [zz_cw zt_hh zm_210, Cond.initialized zm_210.1.1.cls].map some = ([1009, 219] : List Nat).map (fun i => lw_tbl[i]?) := by rfl
set_option maxRecDepth 100000 in
theorem zg_210 : [zz_cw zt_hh zm_210, Cond.initialized zm_210.1.1.cls].all goodWord = true := by decide +kernel
set_option maxRecDepth 100000 in
theorem zb_210 : (plainName zm_210.1.1.cls && (decide (zm_210.1.1.cls ≠ "java/lang/invoke/MethodHandle" ∧ zm_210.1.1.cls ≠ "java/lang/invoke/VarHandle") && decide (zm_210.1.2.2.1 ≤ 40))) = true := by decide +kernel
theorem zo_210 : zz_okM zt_hh zp_P zt_cl zt_tf zt_fd zt_nf zt_T zt_N zm_210 := zz_w_okM zw_210 zb_210 (zz_places goodWord zq_210 zg_210)
set_option maxRecDepth 100000 in
theorem zd_211_0 : ∀ r ∈ zl_211_0, decode zm_211.1.2.1 r.1 = .ok (r.2.1, r.2.2.1) := by decide +kernel
set_option maxRecDepth 100000 in
theorem zq_211_0 : (zl_211_0.flatMap (zz_wr zt_hh zp_P zt_cl zm_211.1.1.cls)).map some = ([337, 334] : List Nat).map (fun i => lw_tbl[i]?) := by rfl
set_option maxRecDepth 100000 in
theorem zg_211_0 : (zl_211_0.flatMap (zz_wr zt_hh zp_P zt_cl zm_211.1.1.cls)).all goodWord = true := by decide +kernel
set_option maxRecDepth 100000 in
theorem zr_211_0 : (zl_211_0.flatMap (zz_wn zp_P zm_211.1.1.cls)).map some = ([] : List Nat).map (fun i => lw_tbl[i]?) := by rfl
set_option maxRecDepth 100000 in
theorem zs_211_0 : (zl_211_0.flatMap (zz_wn zp_P zm_211.1.1.cls)).all zz_isN = true := by decide +kernel
set_option maxRecDepth 100000 in
theorem zb_211_0 : zl_211_0.all (fun r => zz_wb zt_hh zp_P zt_cl zt_tf zt_fd zt_nf zm_211.1.1.cls zm_211.1.1.name r) = true := by decide +kernel
set_option maxRecDepth 100000 in
theorem zy_211_0 : zl_211_0.all (fun r => zz_tb zt_hh zp_P zm_211 r) = true := by decide +kernel
theorem zw_211 : zz_okW zt_hh zp_P zt_cl zt_tf zt_fd zt_nf zt_T zt_N zm_211 := List.forall_mem_cons.mpr ⟨(zz_w_okL zd_211_0 zb_211_0 (zz_places goodWord zq_211_0 zg_211_0) (zz_places zz_isN zr_211_0 zs_211_0) zy_211_0), (fun _ h => absurd h List.not_mem_nil)⟩
set_option maxRecDepth 100000 in
theorem zq_211 : [zz_cw zt_hh zm_211, Cond.initialized zm_211.1.1.cls].map some = ([1176, 219] : List Nat).map (fun i => lw_tbl[i]?) := by rfl
set_option maxRecDepth 100000 in
theorem zg_211 : [zz_cw zt_hh zm_211, Cond.initialized zm_211.1.1.cls].all goodWord = true := by decide +kernel
set_option maxRecDepth 100000 in
theorem zb_211 : (plainName zm_211.1.1.cls && (decide (zm_211.1.1.cls ≠ "java/lang/invoke/MethodHandle" ∧ zm_211.1.1.cls ≠ "java/lang/invoke/VarHandle") && decide (zm_211.1.2.2.1 ≤ 40))) = true := by decide +kernel
theorem zo_211 : zz_okM zt_hh zp_P zt_cl zt_tf zt_fd zt_nf zt_T zt_N zm_211 := zz_w_okM zw_211 zb_211 (zz_places goodWord zq_211 zg_211)
set_option maxRecDepth 100000 in
theorem zd_212_0 : ∀ r ∈ zl_212_0, decode zm_212.1.2.1 r.1 = .ok (r.2.1, r.2.2.1) := by decide +kernel
set_option maxRecDepth 100000 in
theorem zq_212_0 : (zl_212_0.flatMap (zz_wr zt_hh zp_P zt_cl zm_212.1.1.cls)).map some = ([337, 335] : List Nat).map (fun i => lw_tbl[i]?) := by rfl
set_option maxRecDepth 100000 in
theorem zg_212_0 : (zl_212_0.flatMap (zz_wr zt_hh zp_P zt_cl zm_212.1.1.cls)).all goodWord = true := by decide +kernel
set_option maxRecDepth 100000 in
theorem zr_212_0 : (zl_212_0.flatMap (zz_wn zp_P zm_212.1.1.cls)).map some = ([] : List Nat).map (fun i => lw_tbl[i]?) := by rfl
set_option maxRecDepth 100000 in
theorem zs_212_0 : (zl_212_0.flatMap (zz_wn zp_P zm_212.1.1.cls)).all zz_isN = true := by decide +kernel
set_option maxRecDepth 100000 in
theorem zb_212_0 : zl_212_0.all (fun r => zz_wb zt_hh zp_P zt_cl zt_tf zt_fd zt_nf zm_212.1.1.cls zm_212.1.1.name r) = true := by decide +kernel
set_option maxRecDepth 100000 in
theorem zy_212_0 : zl_212_0.all (fun r => zz_tb zt_hh zp_P zm_212 r) = true := by decide +kernel
theorem zw_212 : zz_okW zt_hh zp_P zt_cl zt_tf zt_fd zt_nf zt_T zt_N zm_212 := List.forall_mem_cons.mpr ⟨(zz_w_okL zd_212_0 zb_212_0 (zz_places goodWord zq_212_0 zg_212_0) (zz_places zz_isN zr_212_0 zs_212_0) zy_212_0), (fun _ h => absurd h List.not_mem_nil)⟩
set_option maxRecDepth 100000 in
theorem zq_212 : [zz_cw zt_hh zm_212, Cond.initialized zm_212.1.1.cls].map some = ([1180, 219] : List Nat).map (fun i => lw_tbl[i]?) := by rfl
set_option maxRecDepth 100000 in
theorem zg_212 : [zz_cw zt_hh zm_212, Cond.initialized zm_212.1.1.cls].all goodWord = true := by decide +kernel
set_option maxRecDepth 100000 in
theorem zb_212 : (plainName zm_212.1.1.cls && (decide (zm_212.1.1.cls ≠ "java/lang/invoke/MethodHandle" ∧ zm_212.1.1.cls ≠ "java/lang/invoke/VarHandle") && decide (zm_212.1.2.2.1 ≤ 40))) = true := by decide +kernel
theorem zo_212 : zz_okM zt_hh zp_P zt_cl zt_tf zt_fd zt_nf zt_T zt_N zm_212 := zz_w_okM zw_212 zb_212 (zz_places goodWord zq_212 zg_212)
set_option maxRecDepth 100000 in
theorem zd_213_0 : ∀ r ∈ zl_213_0, decode zm_213.1.2.1 r.1 = .ok (r.2.1, r.2.2.1) := by decide +kernel
set_option maxRecDepth 100000 in
theorem zq_213_0 : (zl_213_0.flatMap (zz_wr zt_hh zp_P zt_cl zm_213.1.1.cls)).map some = ([337, 336] : List Nat).map (fun i => lw_tbl[i]?) := by rfl
set_option maxRecDepth 100000 in
theorem zg_213_0 : (zl_213_0.flatMap (zz_wr zt_hh zp_P zt_cl zm_213.1.1.cls)).all goodWord = true := by decide +kernel
set_option maxRecDepth 100000 in
theorem zr_213_0 : (zl_213_0.flatMap (zz_wn zp_P zm_213.1.1.cls)).map some = ([] : List Nat).map (fun i => lw_tbl[i]?) := by rfl
set_option maxRecDepth 100000 in
theorem zs_213_0 : (zl_213_0.flatMap (zz_wn zp_P zm_213.1.1.cls)).all zz_isN = true := by decide +kernel
set_option maxRecDepth 100000 in
theorem zb_213_0 : zl_213_0.all (fun r => zz_wb zt_hh zp_P zt_cl zt_tf zt_fd zt_nf zm_213.1.1.cls zm_213.1.1.name r) = true := by decide +kernel
set_option maxRecDepth 100000 in
theorem zy_213_0 : zl_213_0.all (fun r => zz_tb zt_hh zp_P zm_213 r) = true := by decide +kernel
theorem zw_213 : zz_okW zt_hh zp_P zt_cl zt_tf zt_fd zt_nf zt_T zt_N zm_213 := List.forall_mem_cons.mpr ⟨(zz_w_okL zd_213_0 zb_213_0 (zz_places goodWord zq_213_0 zg_213_0) (zz_places zz_isN zr_213_0 zs_213_0) zy_213_0), (fun _ h => absurd h List.not_mem_nil)⟩
set_option maxRecDepth 100000 in
theorem zq_213 : [zz_cw zt_hh zm_213, Cond.initialized zm_213.1.1.cls].map some = ([1184, 219] : List Nat).map (fun i => lw_tbl[i]?) := by rfl
set_option maxRecDepth 100000 in
theorem zg_213 : [zz_cw zt_hh zm_213, Cond.initialized zm_213.1.1.cls].all goodWord = true := by decide +kernel
set_option maxRecDepth 100000 in
theorem zb_213 : (plainName zm_213.1.1.cls && (decide (zm_213.1.1.cls ≠ "java/lang/invoke/MethodHandle" ∧ zm_213.1.1.cls ≠ "java/lang/invoke/VarHandle") && decide (zm_213.1.2.2.1 ≤ 40))) = true := by decide +kernel
theorem zo_213 : zz_okM zt_hh zp_P zt_cl zt_tf zt_fd zt_nf zt_T zt_N zm_213 := zz_w_okM zw_213 zb_213 (zz_places goodWord zq_213 zg_213)
set_option maxRecDepth 100000 in
theorem zd_214_0 : ∀ r ∈ zl_214_0, decode zm_214.1.2.1 r.1 = .ok (r.2.1, r.2.2.1) := by decide +kernel
set_option maxRecDepth 100000 in
theorem zq_214_0 : (zl_214_0.flatMap (zz_wr zt_hh zp_P zt_cl zm_214.1.1.cls)).map some = ([374] : List Nat).map (fun i => lw_tbl[i]?) := by rfl
set_option maxRecDepth 100000 in
theorem zg_214_0 : (zl_214_0.flatMap (zz_wr zt_hh zp_P zt_cl zm_214.1.1.cls)).all goodWord = true := by decide +kernel
set_option maxRecDepth 100000 in
theorem zr_214_0 : (zl_214_0.flatMap (zz_wn zp_P zm_214.1.1.cls)).map some = ([] : List Nat).map (fun i => lw_tbl[i]?) := by rfl
set_option maxRecDepth 100000 in
theorem zs_214_0 : (zl_214_0.flatMap (zz_wn zp_P zm_214.1.1.cls)).all zz_isN = true := by decide +kernel
set_option maxRecDepth 100000 in
theorem zb_214_0 : zl_214_0.all (fun r => zz_wb zt_hh zp_P zt_cl zt_tf zt_fd zt_nf zm_214.1.1.cls zm_214.1.1.name r) = true := by decide +kernel
set_option maxRecDepth 100000 in
theorem zy_214_0 : zl_214_0.all (fun r => zz_tb zt_hh zp_P zm_214 r) = true := by decide +kernel
theorem zw_214 : zz_okW zt_hh zp_P zt_cl zt_tf zt_fd zt_nf zt_T zt_N zm_214 := List.forall_mem_cons.mpr ⟨(zz_w_okL zd_214_0 zb_214_0 (zz_places goodWord zq_214_0 zg_214_0) (zz_places zz_isN zr_214_0 zs_214_0) zy_214_0), (fun _ h => absurd h List.not_mem_nil)⟩
set_option maxRecDepth 100000 in
theorem zq_214 : [zz_cw zt_hh zm_214, Cond.initialized zm_214.1.1.cls].map some = ([1691, 220] : List Nat).map (fun i => lw_tbl[i]?) := by rfl
set_option maxRecDepth 100000 in
theorem zg_214 : [zz_cw zt_hh zm_214, Cond.initialized zm_214.1.1.cls].all goodWord = true := by decide +kernel
set_option maxRecDepth 100000 in
theorem zb_214 : (plainName zm_214.1.1.cls && (decide (zm_214.1.1.cls ≠ "java/lang/invoke/MethodHandle" ∧ zm_214.1.1.cls ≠ "java/lang/invoke/VarHandle") && decide (zm_214.1.2.2.1 ≤ 40))) = true := by decide +kernel
theorem zo_214 : zz_okM zt_hh zp_P zt_cl zt_tf zt_fd zt_nf zt_T zt_N zm_214 := zz_w_okM zw_214 zb_214 (zz_places goodWord zq_214 zg_214)
set_option maxRecDepth 100000 in
theorem zd_215_0 : ∀ r ∈ zl_215_0, decode zm_215.1.2.1 r.1 = .ok (r.2.1, r.2.2.1) := by decide +kernel
set_option maxRecDepth 100000 in
theorem zq_215_0 : (zl_215_0.flatMap (zz_wr zt_hh zp_P zt_cl zm_215.1.1.cls)).map some = ([374, 1088, 375, 1093, 36, 1091] : List Nat).map (fun i => lw_tbl[i]?) := by rfl
set_option maxRecDepth 100000 in
theorem zg_215_0 : (zl_215_0.flatMap (zz_wr zt_hh zp_P zt_cl zm_215.1.1.cls)).all goodWord = true := by decide +kernel
set_option maxRecDepth 100000 in
theorem zr_215_0 : (zl_215_0.flatMap (zz_wn zp_P zm_215.1.1.cls)).map some = ([1087] : List Nat).map (fun i => lw_tbl[i]?) := by rfl
set_option maxRecDepth 100000 in
theorem zs_215_0 : (zl_215_0.flatMap (zz_wn zp_P zm_215.1.1.cls)).all zz_isN = true := by decide +kernel
set_option maxRecDepth 100000 in
theorem zb_215_0 : zl_215_0.all (fun r => zz_wb zt_hh zp_P zt_cl zt_tf zt_fd zt_nf zm_215.1.1.cls zm_215.1.1.name r) = true := by decide +kernel
set_option maxRecDepth 100000 in
theorem zy_215_0 : zl_215_0.all (fun r => zz_tb zt_hh zp_P zm_215 r) = true := by decide +kernel
theorem zw_215 : zz_okW zt_hh zp_P zt_cl zt_tf zt_fd zt_nf zt_T zt_N zm_215 := List.forall_mem_cons.mpr ⟨(zz_w_okL zd_215_0 zb_215_0 (zz_places goodWord zq_215_0 zg_215_0) (zz_places zz_isN zr_215_0 zs_215_0) zy_215_0), (fun _ h => absurd h List.not_mem_nil)⟩
set_option maxRecDepth 100000 in
theorem zq_215 : [zz_cw zt_hh zm_215, Cond.initialized zm_215.1.1.cls].map some = ([1086, 220] : List Nat).map (fun i => lw_tbl[i]?) := by rfl
set_option maxRecDepth 100000 in
theorem zg_215 : [zz_cw zt_hh zm_215, Cond.initialized zm_215.1.1.cls].all goodWord = true := by decide +kernel
set_option maxRecDepth 100000 in
theorem zb_215 : (plainName zm_215.1.1.cls && (decide (zm_215.1.1.cls ≠ "java/lang/invoke/MethodHandle" ∧ zm_215.1.1.cls ≠ "java/lang/invoke/VarHandle") && decide (zm_215.1.2.2.1 ≤ 40))) = true := by decide +kernel
theorem zo_215 : zz_okM zt_hh zp_P zt_cl zt_tf zt_fd zt_nf zt_T zt_N zm_215 := zz_w_okM zw_215 zb_215 (zz_places goodWord zq_215 zg_215)
set_option maxRecDepth 100000 in
theorem zd_216_0 : ∀ r ∈ zl_216_0, decode zm_216.1.2.1 r.1 = .ok (r.2.1, r.2.2.1) := by decide +kernel
set_option maxRecDepth 100000 in
theorem zq_216_0 : (zl_216_0.flatMap (zz_wr zt_hh zp_P zt_cl zm_216.1.1.cls)).map some = ([374, 1210, 1611, 108, 1609] : List Nat).map (fun i => lw_tbl[i]?) := by rfl
set_option maxRecDepth 100000 in
theorem zg_216_0 : (zl_216_0.flatMap (zz_wr zt_hh zp_P zt_cl zm_216.1.1.cls)).all goodWord = true := by decide +kernel
set_option maxRecDepth 100000 in
theorem zr_216_0 : (zl_216_0.flatMap (zz_wn zp_P zm_216.1.1.cls)).map some = ([1608] : List Nat).map (fun i => lw_tbl[i]?) := by rfl
set_option maxRecDepth 100000 in
theorem zs_216_0 : (zl_216_0.flatMap (zz_wn zp_P zm_216.1.1.cls)).all zz_isN = true := by decide +kernel
set_option maxRecDepth 100000 in
theorem zb_216_0 : zl_216_0.all (fun r => zz_wb zt_hh zp_P zt_cl zt_tf zt_fd zt_nf zm_216.1.1.cls zm_216.1.1.name r) = true := by decide +kernel
set_option maxRecDepth 100000 in
theorem zy_216_0 : zl_216_0.all (fun r => zz_tb zt_hh zp_P zm_216 r) = true := by decide +kernel
theorem zw_216 : zz_okW zt_hh zp_P zt_cl zt_tf zt_fd zt_nf zt_T zt_N zm_216 := List.forall_mem_cons.mpr ⟨(zz_w_okL zd_216_0 zb_216_0 (zz_places goodWord zq_216_0 zg_216_0) (zz_places zz_isN zr_216_0 zs_216_0) zy_216_0), (fun _ h => absurd h List.not_mem_nil)⟩
set_option maxRecDepth 100000 in
theorem zq_216 : [zz_cw zt_hh zm_216, Cond.initialized zm_216.1.1.cls].map some = ([1607, 220] : List Nat).map (fun i => lw_tbl[i]?) := by rfl
set_option maxRecDepth 100000 in
theorem zg_216 : [zz_cw zt_hh zm_216, Cond.initialized zm_216.1.1.cls].all goodWord = true := by decide +kernel
set_option maxRecDepth 100000 in
theorem zb_216 : (plainName zm_216.1.1.cls && (decide (zm_216.1.1.cls ≠ "java/lang/invoke/MethodHandle" ∧ zm_216.1.1.cls ≠ "java/lang/invoke/VarHandle") && decide (zm_216.1.2.2.1 ≤ 40))) = true := by decide +kernel
theorem zo_216 : zz_okM zt_hh zp_P zt_cl zt_tf zt_fd zt_nf zt_T zt_N zm_216 := zz_w_okM zw_216 zb_216 (zz_places goodWord zq_216 zg_216)
set_option maxRecDepth 100000 in
theorem zd_217_0 : ∀ r ∈ zl_217_0, decode zm_217.1.2.1 r.1 = .ok (r.2.1, r.2.2.1) := by decide +kernel
set_option maxRecDepth 100000 in
theorem zq_217_0 : (zl_217_0.flatMap (zz_wr zt_hh zp_P zt_cl zm_217.1.1.cls)).map some = ([1097, 37, 1095, 1097, 37, 1095, 1088, 1101, 38, 1099, 1104, 1105, 1103, 1097, 37, 1095] : List Nat).map (fun i => lw_tbl[i]?) := by rfl
set_option maxRecDepth 100000 in
theorem zg_217_0 : (zl_217_0.flatMap (zz_wr zt_hh zp_P zt_cl zm_217.1.1.cls)).all goodWord = true := by decide +kernel
set_option maxRecDepth 100000 in
theorem zr_217_0 : (zl_217_0.flatMap (zz_wn zp_P zm_217.1.1.cls)).map some = ([1087] : List Nat).map (fun i => lw_tbl[i]?) := by rfl
set_option maxRecDepth 100000 in
theorem zs_217_0 : (zl_217_0.flatMap (zz_wn zp_P zm_217.1.1.cls)).all zz_isN = true := by decide +kernel
set_option maxRecDepth 100000 in
theorem zb_217_0 : zl_217_0.all (fun r => zz_wb zt_hh zp_P zt_cl zt_tf zt_fd zt_nf zm_217.1.1.cls zm_217.1.1.name r) = true := by decide +kernel
set_option maxRecDepth 100000 in
theorem zd_217_1 : ∀ r ∈ zl_217_1, decode zm_217.1.2.1 r.1 = .ok (r.2.1, r.2.2.1) := by decide +kernel
set_option maxRecDepth 100000 in
theorem zq_217_1 : (zl_217_1.flatMap (zz_wr zt_hh zp_P zt_cl zm_217.1.1.cls)).map some = ([1101, 38, 1099, 1093, 36, 1091, 1108, 1109, 1107, 1113, 1114, 1112] : List Nat).map (fun i => lw_tbl[i]?) := by rfl
set_option maxRecDepth 100000 in
theorem zg_217_1 : (zl_217_1.flatMap (zz_wr zt_hh zp_P zt_cl zm_217.1.1.cls)).all goodWord = true := by decide +kernel
set_option maxRecDepth 100000 in
theorem zr_217_1 : (zl_217_1.flatMap (zz_wn zp_P zm_217.1.1.cls)).map some = ([] : List Nat).map (fun i => lw_tbl[i]?) := by rfl
set_option maxRecDepth 100000 in
theorem zs_217_1 : (zl_217_1.flatMap (zz_wn zp_P zm_217.1.1.cls)).all zz_isN = true := by decide +kernel
set_option maxRecDepth 100000 in
theorem zb_217_1 : zl_217_1.all (fun r => zz_wb zt_hh zp_P zt_cl zt_tf zt_fd zt_nf zm_217.1.1.cls zm_217.1.1.name r) = true := by decide +kernel
set_option maxRecDepth 100000 in
theorem zy_217_0 : zl_217_0.all (fun r => zz_tb zt_hh zp_P zm_217 r) = true := by decide +kernel
set_option maxRecDepth 100000 in
theorem zy_217_1 : zl_217_1.all (fun r => zz_tb zt_hh zp_P zm_217 r) = true := by decide +kernel
theorem zw_217 : zz_okW zt_hh zp_P zt_cl zt_tf zt_fd zt_nf zt_T zt_N zm_217 := List.forall_mem_cons.mpr ⟨(zz_w_okL zd_217_0 zb_217_0 (zz_places goodWord zq_217_0 zg_217_0) (zz_places zz_isN zr_217_0 zs_217_0) zy_217_0), List.forall_mem_cons.mpr ⟨(zz_w_okL zd_217_1 zb_217_1 (zz_places goodWord zq_217_1 zg_217_1) (zz_places zz_isN zr_217_1 zs_217_1) zy_217_1), (fun _ h => absurd h List.not_mem_nil)⟩⟩
set_option maxRecDepth 100000 in
theorem zq_217 : [zz_cw zt_hh zm_217, Cond.initialized zm_217.1.1.cls].map some = ([1094, 220] : List Nat).map (fun i => lw_tbl[i]?) := by rfl
set_option maxRecDepth 100000 in
theorem zg_217 : [zz_cw zt_hh zm_217, Cond.initialized zm_217.1.1.cls].all goodWord = true := by decide +kernel
set_option maxRecDepth 100000 in
theorem zb_217 : (plainName zm_217.1.1.cls && (decide (zm_217.1.1.cls ≠ "java/lang/invoke/MethodHandle" ∧ zm_217.1.1.cls ≠ "java/lang/invoke/VarHandle") && decide (zm_217.1.2.2.1 ≤ 40))) = true := by decide +kernel
theorem zo_217 : zz_okM zt_hh zp_P zt_cl zt_tf zt_fd zt_nf zt_T zt_N zm_217 := zz_w_okM zw_217 zb_217 (zz_places goodWord zq_217 zg_217)
set_option maxRecDepth 100000 in
theorem zd_218_0 : ∀ r ∈ zl_218_0, decode zm_218.1.2.1 r.1 = .ok (r.2.1, r.2.2.1) := by decide +kernel
set_option maxRecDepth 100000 in
theorem zq_218_0 : (zl_218_0.flatMap (zz_wr zt_hh zp_P zt_cl zm_218.1.1.cls)).map some = ([1104, 1105, 1103, 1097, 37, 1095, 1097, 37, 1095, 1088, 1108, 1109, 1107, 1113, 1114, 1112] : List Nat).map (fun i => lw_tbl[i]?) := by rfl
set_option maxRecDepth 100000 in
theorem zg_218_0 : (zl_218_0.flatMap (zz_wr zt_hh zp_P zt_cl zm_218.1.1.cls)).all goodWord = true := by decide +kernel
set_option maxRecDepth 100000 in
theorem zr_218_0 : (zl_218_0.flatMap (zz_wn zp_P zm_218.1.1.cls)).map some = ([1087] : List Nat).map (fun i => lw_tbl[i]?) := by rfl
set_option maxRecDepth 100000 in
theorem zs_218_0 : (zl_218_0.flatMap (zz_wn zp_P zm_218.1.1.cls)).all zz_isN = true := by decide +kernel
set_option maxRecDepth 100000 in
theorem zb_218_0 : zl_218_0.all (fun r => zz_wb zt_hh zp_P zt_cl zt_tf zt_fd zt_nf zm_218.1.1.cls zm_218.1.1.name r) = true := by decide +kernel
set_option maxRecDepth 100000 in
theorem zy_218_0 : zl_218_0.all (fun r => zz_tb zt_hh zp_P zm_218 r) = true := by decide +kernel
theorem zw_218 : zz_okW zt_hh zp_P zt_cl zt_tf zt_fd zt_nf zt_T zt_N zm_218 := List.forall_mem_cons.mpr ⟨(zz_w_okL zd_218_0 zb_218_0 (zz_places goodWord zq_218_0 zg_218_0) (zz_places zz_isN zr_218_0 zs_218_0) zy_218_0), (fun _ h => absurd h List.not_mem_nil)⟩
set_option maxRecDepth 100000 in
theorem zq_218 : [zz_cw zt_hh zm_218, Cond.initialized zm_218.1.1.cls].map some = ([1102, 220] : List Nat).map (fun i => lw_tbl[i]?) := by rfl
set_option maxRecDepth 100000 in
theorem zg_218 : [zz_cw zt_hh zm_218, Cond.initialized zm_218.1.1.cls].all goodWord = true := by decide +kernel
set_option maxRecDepth 100000 in
theorem zb_218 : (plainName zm_218.1.1.cls && (decide (zm_218.1.1.cls ≠ "java/lang/invoke/MethodHandle" ∧ zm_218.1.1.cls ≠ "java/lang/invoke/VarHandle") && decide (zm_218.1.2.2.1 ≤ 40))) = true := by decide +kernel
theorem zo_218 : zz_okM zt_hh zp_P zt_cl zt_tf zt_fd zt_nf zt_T zt_N zm_218 := zz_w_okM zw_218 zb_218 (zz_places goodWord zq_218 zg_218)
set_option maxRecDepth 100000 in
theorem zd_219_0 : ∀ r ∈ zl_219_0, decode zm_219.1.2.1 r.1 = .ok (r.2.1, r.2.2.1) := by decide +kernel
set_option maxRecDepth 100000 in
theorem zq_219_0 : (zl_219_0.flatMap (zz_wr zt_hh zp_P zt_cl zm_219.1.1.cls)).map some = ([375, 374, 375, 375, 373, 375] : List Nat).map (fun i => lw_tbl[i]?) := by rfl
set_option maxRecDepth 100000 in
theorem zg_219_0 : (zl_219_0.flatMap (zz_wr zt_hh zp_P zt_cl zm_219.1.1.cls)).all goodWord = true := by decide +kernel
set_option maxRecDepth 100000 in
theorem zr_219_0 : (zl_219_0.flatMap (zz_wn zp_P zm_219.1.1.cls)).map some = ([] : List Nat).map (fun i => lw_tbl[i]?) := by rfl
set_option maxRecDepth 100000 in
theorem zs_219_0 : (zl_219_0.flatMap (zz_wn zp_P zm_219.1.1.cls)).all zz_isN = true := by decide +kernel
set_option maxRecDepth 100000 in
theorem zb_219_0 : zl_219_0.all (fun r => zz_wb zt_hh zp_P zt_cl zt_tf zt_fd zt_nf zm_219.1.1.cls zm_219.1.1.name r) = true := by decide +kernel
set_option maxRecDepth 100000 in
theorem zy_219_0 : zl_219_0.all (fun r => zz_tb zt_hh zp_P zm_219 r) = true := by decide +kernel
theorem zw_219 : zz_okW zt_hh zp_P zt_cl zt_tf zt_fd zt_nf zt_T zt_N zm_219 := List.forall_mem_cons.mpr ⟨(zz_w_okL zd_219_0 zb_219_0 (zz_places goodWord zq_219_0 zg_219_0) (zz_places zz_isN zr_219_0 zs_219_0) zy_219_0), (fun _ h => absurd h List.not_mem_nil)⟩
set_option maxRecDepth 100000 in
theorem zq_219 : [zz_cw zt_hh zm_219, Cond.initialized zm_219.1.1.cls].map some = ([1098, 220] : List Nat).map (fun i => lw_tbl[i]?) := by rfl
set_option maxRecDepth 100000 in
theorem zg_219 : [zz_cw zt_hh zm_219, Cond.initialized zm_219.1.1.cls].all goodWord = true := by decide +kernel
set_option maxRecDepth 100000 in
theorem zb_219 : (plainName zm_219.1.1.cls && (decide (zm_219.1.1.cls ≠ "java/lang/invoke/MethodHandle" ∧ zm_219.1.1.cls ≠ "java/lang/invoke/VarHandle") && decide (zm_219.1.2.2.1 ≤ 40))) = true := by decide +kernel
theorem zo_219 : zz_okM zt_hh zp_P zt_cl zt_tf zt_fd zt_nf zt_T zt_N zm_219 := zz_w_okM zw_219 zb_219 (zz_places goodWord zq_219 zg_219)
set_option maxRecDepth 100000 in
theorem zd_220_0 : ∀ r ∈ zl_220_0, decode zm_220.1.2.1 r.1 = .ok (r.2.1, r.2.2.1) := by decide +kernel
set_option maxRecDepth 100000 in
theorem zq_220_0 : (zl_220_0.flatMap (zz_wr zt_hh zp_P zt_cl zm_220.1.1.cls)).map some = ([1210, 1615, 109, 1613, 1228, 1615, 109, 1613, 1621, 110, 1619, 1125, 1126, 1623, 1615, 109, 1613] : List Nat).map (fun i => lw_tbl[i]?) := by rfl
set_option maxRecDepth 100000 in
theorem zg_220_0 : (zl_220_0.flatMap (zz_wr zt_hh zp_P zt_cl zm_220.1.1.cls)).all goodWord = true := by decide +kernel
set_option maxRecDepth 100000 in
theorem zr_220_0 : (zl_220_0.flatMap (zz_wn zp_P zm_220.1.1.cls)).map some = ([1608, 1618] : List Nat).map (fun i => lw_tbl[i]?) := by rfl
set_option maxRecDepth 100000 in
theorem zs_220_0 : (zl_220_0.flatMap (zz_wn zp_P zm_220.1.1.cls)).all zz_isN = true := by decide +kernel
set_option maxRecDepth 100000 in
theorem zb_220_0 : zl_220_0.all (fun r => zz_wb zt_hh zp_P zt_cl zt_tf zt_fd zt_nf zm_220.1.1.cls zm_220.1.1.name r) = true := by decide +kernel
set_option maxRecDepth 100000 in
theorem zd_220_1 : ∀ r ∈ zl_220_1, decode zm_220.1.2.1 r.1 = .ok (r.2.1, r.2.2.1) := by decide +kernel
set_option maxRecDepth 100000 in
theorem zq_220_1 : (zl_220_1.flatMap (zz_wr zt_hh zp_P zt_cl zm_220.1.1.cls)).map some = ([1223, 1224, 1625, 1621, 110, 1619, 1223, 1224, 1625, 1611, 108, 1609] : List Nat).map (fun i => lw_tbl[i]?) := by rfl
set_option maxRecDepth 100000 in
theorem zg_220_1 : (zl_220_1.flatMap (zz_wr zt_hh zp_P zt_cl zm_220.1.1.cls)).all goodWord = true := by decide +kernel
set_option maxRecDepth 100000 in
theorem zr_220_1 : (zl_220_1.flatMap (zz_wn zp_P zm_220.1.1.cls)).map some = ([] : List Nat).map (fun i => lw_tbl[i]?) := by rfl
set_option maxRecDepth 100000 in
theorem zs_220_1 : (zl_220_1.flatMap (zz_wn zp_P zm_220.1.1.cls)).all zz_isN = true := by decide +kernel
set_option maxRecDepth 100000 in
theorem zb_220_1 : zl_220_1.all (fun r => zz_wb zt_hh zp_P zt_cl zt_tf zt_fd zt_nf zm_220.1.1.cls zm_220.1.1.name r) = true := by decide +kernel
set_option maxRecDepth 100000 in
theorem zy_220_0 : zl_220_0.all (fun r => zz_tb zt_hh zp_P zm_220 r) = true := by decide +kernel
set_option maxRecDepth 100000 in
theorem zy_220_1 : zl_220_1.all (fun r => zz_tb zt_hh zp_P zm_220 r) = true := by decide +kernel
theorem zw_220 : zz_okW zt_hh zp_P zt_cl zt_tf zt_fd zt_nf zt_T zt_N zm_220 := List.forall_mem_cons.mpr ⟨(zz_w_okL zd_220_0 zb_220_0 (zz_places goodWord zq_220_0 zg_220_0) (zz_places zz_isN zr_220_0 zs_220_0) zy_220_0), List.forall_mem_cons.mpr ⟨(zz_w_okL zd_220_1 zb_220_1 (zz_places goodWord zq_220_1 zg_220_1) (zz_places zz_isN zr_220_1 zs_220_1) zy_220_1), (fun _ h => absurd h List.not_mem_nil)⟩⟩
set_option maxRecDepth 100000 in
theorem zq_220 : [zz_cw zt_hh zm_220, Cond.initialized zm_220.1.1.cls].map some = ([1612, 220] : List Nat).map (fun i => lw_tbl[i]?) := by rfl
set_option maxRecDepth 100000 in
theorem zg_220 : [zz_cw zt_hh zm_220, Cond.initialized zm_220.1.1.cls].all goodWord = true := by decide +kernel
set_option maxRecDepth 100000 in
theorem zb_220 : (plainName zm_220.1.1.cls && (decide (zm_220.1.1.cls ≠ "java/lang/invoke/MethodHandle" ∧ zm_220.1.1.cls ≠ "java/lang/invoke/VarHandle") && decide (zm_220.1.2.2.1 ≤ 40))) = true := by decide +kernel
theorem zo_220 : zz_okM zt_hh zp_P zt_cl zt_tf zt_fd zt_nf zt_T zt_N zm_220 := zz_w_okM zw_220 zb_220 (zz_places goodWord zq_220 zg_220)
set_option maxRecDepth 100000 in
theorem zd_221_0 : ∀ r ∈ zl_221_0, decode zm_221.1.2.1 r.1 = .ok (r.2.1, r.2.2.1) := by decide +kernel
set_option maxRecDepth 100000 in
theorem zq_221_0 : (zl_221_0.flatMap (zz_wr zt_hh zp_P zt_cl zm_221.1.1.cls)).map some = ([1125, 1126, 1623, 1615, 109, 1613, 1248, 1249, 1624, 1615, 109, 1613] : List Nat).map (fun i => lw_tbl[i]?) := by rfl
set_option maxRecDepth 100000 in
theorem zg_221_0 : (zl_221_0.flatMap (zz_wr zt_hh zp_P zt_cl zm_221.1.1.cls)).all goodWord = true := by decide +kernel
set_option maxRecDepth 100000 in
theorem zr_221_0 : (zl_221_0.flatMap (zz_wn zp_P zm_221.1.1.cls)).map some = ([] : List Nat).map (fun i => lw_tbl[i]?) := by rfl
set_option maxRecDepth 100000 in
theorem zs_221_0 : (zl_221_0.flatMap (zz_wn zp_P zm_221.1.1.cls)).all zz_isN = true := by decide +kernel
set_option maxRecDepth 100000 in
theorem zb_221_0 : zl_221_0.all (fun r => zz_wb zt_hh zp_P zt_cl zt_tf zt_fd zt_nf zm_221.1.1.cls zm_221.1.1.name r) = true := by decide +kernel
set_option maxRecDepth 100000 in
theorem zy_221_0 : zl_221_0.all (fun r => zz_tb zt_hh zp_P zm_221 r) = true := by decide +kernel
theorem zw_221 : zz_okW zt_hh zp_P zt_cl zt_tf zt_fd zt_nf zt_T zt_N zm_221 := List.forall_mem_cons.mpr ⟨(zz_w_okL zd_221_0 zb_221_0 (zz_places goodWord zq_221_0 zg_221_0) (zz_places zz_isN zr_221_0 zs_221_0) zy_221_0), (fun _ h => absurd h List.not_mem_nil)⟩
set_option maxRecDepth 100000 in
theorem zq_221 : [zz_cw zt_hh zm_221, Cond.initialized zm_221.1.1.cls].map some = ([1622, 220] : List Nat).map (fun i => lw_tbl[i]?) := by rfl
set_option maxRecDepth 100000 in
theorem zg_221 : [zz_cw zt_hh zm_221, Cond.initialized zm_221.1.1.cls].all goodWord = true := by decide +kernel
set_option maxRecDepth 100000 in
theorem zb_221 : (plainName zm_221.1.1.cls && (decide (zm_221.1.1.cls ≠ "java/lang/invoke/MethodHandle" ∧ zm_221.1.1.cls ≠ "java/lang/invoke/VarHandle") && decide (zm_221.1.2.2.1 ≤ 40))) = true := by decide +kernel
theorem zo_221 : zz_okM zt_hh zp_P zt_cl zt_tf zt_fd zt_nf zt_T zt_N zm_221 := zz_w_okM zw_221 zb_221 (zz_places goodWord zq_221 zg_221)
set_option maxRecDepth 100000 in
theorem zd_222_0 : ∀ r ∈ zl_222_0, decode zm_222.1.2.1 r.1 = .ok (r.2.1, r.2.2.1) := by decide +kernel
set_option maxRecDepth 100000 in
theorem zq_222_0 : (zl_222_0.flatMap (zz_wr zt_hh zp_P zt_cl zm_222.1.1.cls)).map some = ([1210, 1210, 1117, 1215, 47, 1213, 1117, 466, 1210, 1210, 1226, 701, 228, 702, 1228, 1228, 1232, 49, 1230, 1088] : List Nat).map (fun i => lw_tbl[i]?) := by rfl
set_option maxRecDepth 100000 in
theorem zg_222_0 : (zl_222_0.flatMap (zz_wr zt_hh zp_P zt_cl zm_222.1.1.cls)).all goodWord = true := by decide +kernel
set_option maxRecDepth 100000 in
theorem zr_222_0 : (zl_222_0.flatMap (zz_wn zp_P zm_222.1.1.cls)).map some = ([1209, 1209, 1212, 1212, 1209, 1209, 1227, 1227, 1241] : List Nat).map (fun i => lw_tbl[i]?) := by rfl
set_option maxRecDepth 100000 in
theorem zs_222_0 : (zl_222_0.flatMap (zz_wn zp_P zm_222.1.1.cls)).all zz_isN = true := by decide +kernel
set_option maxRecDepth 100000 in
theorem zb_222_0 : zl_222_0.all (fun r => zz_wb zt_hh zp_P zt_cl zt_tf zt_fd zt_nf zm_222.1.1.cls zm_222.1.1.name r) = true := by decide +kernel
set_option maxRecDepth 100000 in
theorem zd_222_1 : ∀ r ∈ zl_222_1, decode zm_222.1.2.1 r.1 = .ok (r.2.1, r.2.2.1) := by decide +kernel
set_option maxRecDepth 100000 in
theorem zq_222_1 : (zl_222_1.flatMap (zz_wr zt_hh zp_P zt_cl zm_222.1.1.cls)).map some = ([1244, 51, 1242, 1255, 52, 1253, 466, 1117] : List Nat).map (fun i => lw_tbl[i]?) := by rfl
set_option maxRecDepth 100000 in
theorem zg_222_1 : (zl_222_1.flatMap (zz_wr zt_hh zp_P zt_cl zm_222.1.1.cls)).all goodWord = true := by decide +kernel
set_option maxRecDepth 100000 in
theorem zr_222_1 : (zl_222_1.flatMap (zz_wn zp_P zm_222.1.1.cls)).map some = ([1212] : List Nat).map (fun i => lw_tbl[i]?) := by rfl
set_option maxRecDepth 100000 in
theorem zs_222_1 : (zl_222_1.flatMap (zz_wn zp_P zm_222.1.1.cls)).all zz_isN = true := by decide +kernel
set_option maxRecDepth 100000 in
theorem zb_222_1 : zl_222_1.all (fun r => zz_wb zt_hh zp_P zt_cl zt_tf zt_fd zt_nf zm_222.1.1.cls zm_222.1.1.name r) = true := by decide +kernel
set_option maxRecDepth 100000 in
theorem zy_222_0 : zl_222_0.all (fun r => zz_tb zt_hh zp_P zm_222 r) = true := by decide +kernel
set_option maxRecDepth 100000 in
theorem zy_222_1 : zl_222_1.all (fun r => zz_tb zt_hh zp_P zm_222 r) = true := by decide +kernel
theorem zw_222 : zz_okW zt_hh zp_P zt_cl zt_tf zt_fd zt_nf zt_T zt_N zm_222 := List.forall_mem_cons.mpr ⟨(zz_w_okL zd_222_0 zb_222_0 (zz_places goodWord zq_222_0 zg_222_0) (zz_places zz_isN zr_222_0 zs_222_0) zy_222_0), List.forall_mem_cons.mpr ⟨(zz_w_okL zd_222_1 zb_222_1 (zz_places goodWord zq_222_1 zg_222_1) (zz_places zz_isN zr_222_1 zs_222_1) zy_222_1), (fun _ h => absurd h List.not_mem_nil)⟩⟩
set_option maxRecDepth 100000 in
theorem zq_222 : [zz_cw zt_hh zm_222, Cond.initialized zm_222.1.1.cls].map some = ([1208, 225] : List Nat).map (fun i => lw_tbl[i]?) := by rfl
set_option maxRecDepth 100000 in
theorem zg_222 : [zz_cw zt_hh zm_222, Cond.initialized zm_222.1.1.cls].all goodWord = true := by decide +kernel
set_option maxRecDepth 100000 in
theorem zb_222 : (plainName zm_222.1.1.cls && (decide (zm_222.1.1.cls ≠ "java/lang/invoke/MethodHandle" ∧ zm_222.1.1.cls ≠ "java/lang/invoke/VarHandle") && decide (zm_222.1.2.2.1 ≤ 40))) = true := by decide +kernel
theorem zo_222 : zz_okM zt_hh zp_P zt_cl zt_tf zt_fd zt_nf zt_T zt_N zm_222 := zz_w_okM zw_222 zb_222 (zz_places goodWord zq_222 zg_222)
set_option maxRecDepth 100000 in
theorem zd_223_0 : ∀ r ∈ zl_223_0, decode zm_223.1.2.1 r.1 = .ok (r.2.1, r.2.2.1) := by decide +kernel
set_option maxRecDepth 100000 in
theorem zq_223_0 : (zl_223_0.flatMap (zz_wr zt_hh zp_P zt_cl zm_223.1.1.cls)).map some = ([465, 1125, 1126, 1217, 1210, 1210, 1117, 1210, 1228, 1117, 465, 1223, 1224, 1222, 465, 1104, 1105, 1246] : List Nat).map (fun i => lw_tbl[i]?) := by rfl
set_option maxRecDepth 100000 in
theorem zg_223_0 : (zl_223_0.flatMap (zz_wr zt_hh zp_P zt_cl zm_223.1.1.cls)).all goodWord = true := by decide +kernel
set_option maxRecDepth 100000 in
theorem zr_223_0 : (zl_223_0.flatMap (zz_wn zp_P zm_223.1.1.cls)).map some = ([1209, 1209, 1212, 1209, 1227, 1212] : List Nat).map (fun i => lw_tbl[i]?) := by rfl
set_option maxRecDepth 100000 in
theorem zs_223_0 : (zl_223_0.flatMap (zz_wn zp_P zm_223.1.1.cls)).all zz_isN = true := by decide +kernel
set_option maxRecDepth 100000 in
theorem zb_223_0 : zl_223_0.all (fun r => zz_wb zt_hh zp_P zt_cl zt_tf zt_fd zt_nf zm_223.1.1.cls zm_223.1.1.name r) = true := by decide +kernel
set_option maxRecDepth 100000 in
theorem zd_223_1 : ∀ r ∈ zl_223_1, decode zm_223.1.2.1 r.1 = .ok (r.2.1, r.2.2.1) := by decide +kernel
set_option maxRecDepth 100000 in
theorem zq_223_1 : (zl_223_1.flatMap (zz_wr zt_hh zp_P zt_cl zm_223.1.1.cls)).map some = ([465, 1125, 1126, 1217, 465, 1248, 1249, 1247, 1117, 465, 465, 1223, 1224, 1222, 1108, 1109, 1251, 465, 1210, 1113, 1114, 1252] : List Nat).map (fun i => lw_tbl[i]?) := by rfl
set_option maxRecDepth 100000 in
theorem zg_223_1 : (zl_223_1.flatMap (zz_wr zt_hh zp_P zt_cl zm_223.1.1.cls)).all goodWord = true := by decide +kernel
set_option maxRecDepth 100000 in
theorem zr_223_1 : (zl_223_1.flatMap (zz_wn zp_P zm_223.1.1.cls)).map some = ([1212, 1209] : List Nat).map (fun i => lw_tbl[i]?) := by rfl
set_option maxRecDepth 100000 in
theorem zs_223_1 : (zl_223_1.flatMap (zz_wn zp_P zm_223.1.1.cls)).all zz_isN = true := by decide +kernel
set_option maxRecDepth 100000 in
theorem zb_223_1 : zl_223_1.all (fun r => zz_wb zt_hh zp_P zt_cl zt_tf zt_fd zt_nf zm_223.1.1.cls zm_223.1.1.name r) = true := by decide +kernel
set_option maxRecDepth 100000 in
theorem zy_223_0 : zl_223_0.all (fun r => zz_tb zt_hh zp_P zm_223 r) = true := by decide +kernel
set_option maxRecDepth 100000 in
theorem zy_223_1 : zl_223_1.all (fun r => zz_tb zt_hh zp_P zm_223 r) = true := by decide +kernel
theorem zw_223 : zz_okW zt_hh zp_P zt_cl zt_tf zt_fd zt_nf zt_T zt_N zm_223 := List.forall_mem_cons.mpr ⟨(zz_w_okL zd_223_0 zb_223_0 (zz_places goodWord zq_223_0 zg_223_0) (zz_places zz_isN zr_223_0 zs_223_0) zy_223_0), List.forall_mem_cons.mpr ⟨(zz_w_okL zd_223_1 zb_223_1 (zz_places goodWord zq_223_1 zg_223_1) (zz_places zz_isN zr_223_1 zs_223_1) zy_223_1), (fun _ h => absurd h List.not_mem_nil)⟩⟩
set_option maxRecDepth 100000 in
theorem zq_223 : [zz_cw zt_hh zm_223, Cond.initialized zm_223.1.1.cls].map some = ([1279, 225] : List Nat).map (fun i => lw_tbl[i]?) := by rfl
set_option maxRecDepth 100000 in
theorem zg_223 : [zz_cw zt_hh zm_223, Cond.initialized zm_223.1.1.cls].all goodWord = true := by decide +kernel
set_option maxRecDepth 100000 in
theorem zb_223 : (plainName zm_223.1.1.cls && (decide (zm_223.1.1.cls ≠ "java/lang/invoke/MethodHandle" ∧ zm_223.1.1.cls ≠ "java/lang/invoke/VarHandle") && decide (zm_223.1.2.2.1 ≤ 40))) = true := by decide +kernel
theorem zo_223 : zz_okM zt_hh zp_P zt_cl zt_tf zt_fd zt_nf zt_T zt_N zm_223 := zz_w_okM zw_223 zb_223 (zz_places goodWord zq_223 zg_223)
set_option maxRecDepth 100000 in
theorem zd_224_0 : ∀ r ∈ zl_224_0, decode zm_224.1.2.1 r.1 = .ok (r.2.1, r.2.2.1) := by decide +kernel
set_option maxRecDepth 100000 in
theorem zq_224_0 : (zl_224_0.flatMap (zz_wr zt_hh zp_P zt_cl zm_224.1.1.cls)).map some = ([1210, 1210, 1210, 1117, 1228, 465, 1125, 1126, 1217] : List Nat).map (fun i => lw_tbl[i]?) := by rfl
set_option maxRecDepth 100000 in
theorem zg_224_0 : (zl_224_0.flatMap (zz_wr zt_hh zp_P zt_cl zm_224.1.1.cls)).all goodWord = true := by decide +kernel
set_option maxRecDepth 100000 in
theorem zr_224_0 : (zl_224_0.flatMap (zz_wn zp_P zm_224.1.1.cls)).map some = ([1209, 1209, 1209, 1212, 1227] : List Nat).map (fun i => lw_tbl[i]?) := by rfl
set_option maxRecDepth 100000 in
theorem zs_224_0 : (zl_224_0.flatMap (zz_wn zp_P zm_224.1.1.cls)).all zz_isN = true := by decide +kernel
set_option maxRecDepth 100000 in
theorem zb_224_0 : zl_224_0.all (fun r => zz_wb zt_hh zp_P zt_cl zt_tf zt_fd zt_nf zm_224.1.1.cls zm_224.1.1.name r) = true := by decide +kernel
set_option maxRecDepth 100000 in
theorem zd_224_1 : ∀ r ∈ zl_224_1, decode zm_224.1.2.1 r.1 = .ok (r.2.1, r.2.2.1) := by decide +kernel
set_option maxRecDepth 100000 in
theorem zq_224_1 : (zl_224_1.flatMap (zz_wr zt_hh zp_P zt_cl zm_224.1.1.cls)).map some = ([1117, 465, 1104, 1105, 1246, 465, 1410, 1411, 1472, 465, 1108, 1109, 1251, 465, 1410, 1411, 1472, 465, 1113, 1114, 1252] : List Nat).map (fun i => lw_tbl[i]?) := by rfl
set_option maxRecDepth 100000 in
theorem zg_224_1 : (zl_224_1.flatMap (zz_wr zt_hh zp_P zt_cl zm_224.1.1.cls)).all goodWord = true := by decide +kernel
set_option maxRecDepth 100000 in
theorem zr_224_1 : (zl_224_1.flatMap (zz_wn zp_P zm_224.1.1.cls)).map some = ([1212] : List Nat).map (fun i => lw_tbl[i]?) := by rfl
set_option maxRecDepth 100000 in
theorem zs_224_1 : (zl_224_1.flatMap (zz_wn zp_P zm_224.1.1.cls)).all zz_isN = true := by decide +kernel
set_option maxRecDepth 100000 in
theorem zb_224_1 : zl_224_1.all (fun r => zz_wb zt_hh zp_P zt_cl zt_tf zt_fd zt_nf zm_224.1.1.cls zm_224.1.1.name r) = true := by decide +kernel
set_option maxRecDepth 100000 in
theorem zy_224_0 : zl_224_0.all (fun r => zz_tb zt_hh zp_P zm_224 r) = true := by decide +kernel
set_option maxRecDepth 100000 in
theorem zy_224_1 : zl_224_1.all (fun r => zz_tb zt_hh zp_P zm_224 r) = true := by decide +kernel
theorem zw_224 : zz_okW zt_hh zp_P zt_cl zt_tf zt_fd zt_nf zt_T zt_N zm_224 := List.forall_mem_cons.mpr ⟨(zz_w_okL zd_224_0 zb_224_0 (zz_places goodWord zq_224_0 zg_224_0) (zz_places zz_isN zr_224_0 zs_224_0) zy_224_0), List.forall_mem_cons.mpr ⟨(zz_w_okL zd_224_1 zb_224_1 (zz_places goodWord zq_224_1 zg_224_1) (zz_places zz_isN zr_224_1 zs_224_1) zy_224_1), (fun _ h => absurd h List.not_mem_nil)⟩⟩
set_option maxRecDepth 100000 in
theorem zq_224 : [zz_cw zt_hh zm_224, Cond.initialized zm_224.1.1.cls].map some = ([1471, 225] : List Nat).map (fun i => lw_tbl[i]?) := by rfl
set_option maxRecDepth 100000 in
theorem zg_224 : [zz_cw zt_hh zm_224, Cond.initialized zm_224.1.1.cls].all goodWord = true := by decide +kernel
set_option maxRecDepth 100000 in
theorem zb_224 : (plainName zm_224.1.1.cls && (decide (zm_224.1.1.cls ≠ "java/lang/invoke/MethodHandle" ∧ zm_224.1.1.cls ≠ "java/lang/invoke/VarHandle") && decide (zm_224.1.2.2.1 ≤ 40))) = true := by decide +kernel
theorem zo_224 : zz_okM zt_hh zp_P zt_cl zt_tf zt_fd zt_nf zt_T zt_N zm_224 := zz_w_okM zw_224 zb_224 (zz_places goodWord zq_224 zg_224)
set_option maxRecDepth 100000 in
theorem zd_225_0 : ∀ r ∈ zl_225_0, decode zm_225.1.2.1 r.1 = .ok (r.2.1, r.2.2.1) := by decide +kernel
set_option maxRecDepth 100000 in
theorem zq_225_0 : (zl_225_0.flatMap (zz_wr zt_hh zp_P zt_cl zm_225.1.1.cls)).map some = ([1210, 1210, 1210, 1210, 1228, 1228, 465, 1125, 1126, 1217] : List Nat).map (fun i => lw_tbl[i]?) := by rfl
set_option maxRecDepth 100000 in
theorem zg_225_0 : (zl_225_0.flatMap (zz_wr zt_hh zp_P zt_cl zm_225.1.1.cls)).all goodWord = true := by decide +kernel
set_option maxRecDepth 100000 in
theorem zr_225_0 : (zl_225_0.flatMap (zz_wn zp_P zm_225.1.1.cls)).map some = ([1209, 1209, 1209, 1209, 1227, 1227] : List Nat).map (fun i => lw_tbl[i]?) := by rfl
set_option maxRecDepth 100000 in
theorem zs_225_0 : (zl_225_0.flatMap (zz_wn zp_P zm_225.1.1.cls)).all zz_isN = true := by decide +kernel
set_option maxRecDepth 100000 in
theorem zb_225_0 : zl_225_0.all (fun r => zz_wb zt_hh zp_P zt_cl zt_tf zt_fd zt_nf zm_225.1.1.cls zm_225.1.1.name r) = true := by decide +kernel
set_option maxRecDepth 100000 in
theorem zy_225_0 : zl_225_0.all (fun r => zz_tb zt_hh zp_P zm_225 r) = true := by decide +kernel
theorem zw_225 : zz_okW zt_hh zp_P zt_cl zt_tf zt_fd zt_nf zt_T zt_N zm_225 := List.forall_mem_cons.mpr ⟨(zz_w_okL zd_225_0 zb_225_0 (zz_places goodWord zq_225_0 zg_225_0) (zz_places zz_isN zr_225_0 zs_225_0) zy_225_0), (fun _ h => absurd h List.not_mem_nil)⟩
set_option maxRecDepth 100000 in
theorem zq_225 : [zz_cw zt_hh zm_225, Cond.initialized zm_225.1.1.cls].map some = ([1480, 225] : List Nat).map (fun i => lw_tbl[i]?) := by rfl
set_option maxRecDepth 100000 in
theorem zg_225 : [zz_cw zt_hh zm_225, Cond.initialized zm_225.1.1.cls].all goodWord = true := by decide +kernel
set_option maxRecDepth 100000 in
theorem zb_225 : (plainName zm_225.1.1.cls && (decide (zm_225.1.1.cls ≠ "java/lang/invoke/MethodHandle" ∧ zm_225.1.1.cls ≠ "java/lang/invoke/VarHandle") && decide (zm_225.1.2.2.1 ≤ 40))) = true := by decide +kernel
theorem zo_225 : zz_okM zt_hh zp_P zt_cl zt_tf zt_fd zt_nf zt_T zt_N zm_225 := zz_w_okM zw_225 zb_225 (zz_places goodWord zq_225 zg_225)
set_option maxRecDepth 100000 in
theorem zd_226_0 : ∀ r ∈ zl_226_0, decode zm_226.1.2.1 r.1 = .ok (r.2.1, r.2.2.1) := by decide +kernel
set_option maxRecDepth 100000 in
theorem zq_226_0 : (zl_226_0.flatMap (zz_wr zt_hh zp_P zt_cl zm_226.1.1.cls)).map some = ([1210, 1210, 465, 1125, 1126, 1217, 465, 1125, 1126, 1217, 465, 1125, 1126, 1217, 465] : List Nat).map (fun i => lw_tbl[i]?) := by rfl
set_option maxRecDepth 100000 in
theorem zg_226_0 : (zl_226_0.flatMap (zz_wr zt_hh zp_P zt_cl zm_226.1.1.cls)).all goodWord = true := by decide +kernel
set_option maxRecDepth 100000 in
theorem zr_226_0 : (zl_226_0.flatMap (zz_wn zp_P zm_226.1.1.cls)).map some = ([1209, 1209] : List Nat).map (fun i => lw_tbl[i]?) := by rfl
set_option maxRecDepth 100000 in
theorem zs_226_0 : (zl_226_0.flatMap (zz_wn zp_P zm_226.1.1.cls)).all zz_isN = true := by decide +kernel
set_option maxRecDepth 100000 in
theorem zb_226_0 : zl_226_0.all (fun r => zz_wb zt_hh zp_P zt_cl zt_tf zt_fd zt_nf zm_226.1.1.cls zm_226.1.1.name r) = true := by decide +kernel
set_option maxRecDepth 100000 in
theorem zd_226_1 : ∀ r ∈ zl_226_1, decode zm_226.1.2.1 r.1 = .ok (r.2.1, r.2.2.1) := by decide +kernel
set_option maxRecDepth 100000 in
theorem zq_226_1 : (zl_226_1.flatMap (zz_wr zt_hh zp_P zt_cl zm_226.1.1.cls)).map some = ([1125, 1126, 1217, 465, 1220, 48, 1218, 1125, 1126, 1217, 465, 1220, 48, 1218, 1125, 1126, 1217] : List Nat).map (fun i => lw_tbl[i]?) := by rfl
set_option maxRecDepth 100000 in
theorem zg_226_1 : (zl_226_1.flatMap (zz_wr zt_hh zp_P zt_cl zm_226.1.1.cls)).all goodWord = true := by decide +kernel
set_option maxRecDepth 100000 in
theorem zr_226_1 : (zl_226_1.flatMap (zz_wn zp_P zm_226.1.1.cls)).map some = ([] : List Nat).map (fun i => lw_tbl[i]?) := by rfl
set_option maxRecDepth 100000 in
theorem zs_226_1 : (zl_226_1.flatMap (zz_wn zp_P zm_226.1.1.cls)).all zz_isN = true := by decide +kernel
set_option maxRecDepth 100000 in
theorem zb_226_1 : zl_226_1.all (fun r => zz_wb zt_hh zp_P zt_cl zt_tf zt_fd zt_nf zm_226.1.1.cls zm_226.1.1.name r) = true := by decide +kernel
set_option maxRecDepth 100000 in
theorem zy_226_0 : zl_226_0.all (fun r => zz_tb zt_hh zp_P zm_226 r) = true := by decide +kernel
set_option maxRecDepth 100000 in
theorem zy_226_1 : zl_226_1.all (fun r => zz_tb zt_hh zp_P zm_226 r) = true := by decide +kernel
theorem zw_226 : zz_okW zt_hh zp_P zt_cl zt_tf zt_fd zt_nf zt_T zt_N zm_226 := List.forall_mem_cons.mpr ⟨(zz_w_okL zd_226_0 zb_226_0 (zz_places goodWord zq_226_0 zg_226_0) (zz_places zz_isN zr_226_0 zs_226_0) zy_226_0), List.forall_mem_cons.mpr ⟨(zz_w_okL zd_226_1 zb_226_1 (zz_places goodWord zq_226_1 zg_226_1) (zz_places zz_isN zr_226_1 zs_226_1) zy_226_1), (fun _ h => absurd h List.not_mem_nil)⟩⟩
set_option maxRecDepth 100000 in
theorem zq_226 : [zz_cw zt_hh zm_226, Cond.initialized zm_226.1.1.cls].map some = ([1216, 225] : List Nat).map (fun i => lw_tbl[i]?) := by rfl
set_option maxRecDepth 100000 in
theorem zg_226 : [zz_cw zt_hh zm_226, Cond.initialized zm_226.1.1.cls].all goodWord = true := by decide +kernel
set_option maxRecDepth 100000 in
theorem zb_226 : (plainName zm_226.1.1.cls && (decide (zm_226.1.1.cls ≠ "java/lang/invoke/MethodHandle" ∧ zm_226.1.1.cls ≠ "java/lang/invoke/VarHandle") && decide (zm_226.1.2.2.1 ≤ 40))) = true := by decide +kernel
theorem zo_226 : zz_okM zt_hh zp_P zt_cl zt_tf zt_fd zt_nf zt_T zt_N zm_226 := zz_w_okM zw_226 zb_226 (zz_places goodWord zq_226 zg_226)
set_option maxRecDepth 100000 in
theorem zd_227_0 : ∀ r ∈ zl_227_0, decode zm_227.1.2.1 r.1 = .ok (r.2.1, r.2.2.1) := by decide +kernel
set_option maxRecDepth 100000 in
theorem zq_227_0 : (zl_227_0.flatMap (zz_wr zt_hh zp_P zt_cl zm_227.1.1.cls)).map some = ([465, 1210, 1125, 1126, 1217, 465, 1104, 1105, 1246, 465, 1220, 48, 1218, 1220, 48, 1218, 1244, 51, 1242, 1108, 1109, 1251, 465] : List Nat).map (fun i => lw_tbl[i]?) := by rfl
set_option maxRecDepth 100000 in
theorem zg_227_0 : (zl_227_0.flatMap (zz_wr zt_hh zp_P zt_cl zm_227.1.1.cls)).all goodWord = true := by decide +kernel
set_option maxRecDepth 100000 in
theorem zr_227_0 : (zl_227_0.flatMap (zz_wn zp_P zm_227.1.1.cls)).map some = ([1209] : List Nat).map (fun i => lw_tbl[i]?) := by rfl
set_option maxRecDepth 100000 in
theorem zs_227_0 : (zl_227_0.flatMap (zz_wn zp_P zm_227.1.1.cls)).all zz_isN = true := by decide +kernel
set_option maxRecDepth 100000 in
theorem zb_227_0 : zl_227_0.all (fun r => zz_wb zt_hh zp_P zt_cl zt_tf zt_fd zt_nf zm_227.1.1.cls zm_227.1.1.name r) = true := by decide +kernel
set_option maxRecDepth 100000 in
theorem zd_227_1 : ∀ r ∈ zl_227_1, decode zm_227.1.2.1 r.1 = .ok (r.2.1, r.2.2.1) := by decide +kernel
set_option maxRecDepth 100000 in
theorem zq_227_1 : (zl_227_1.flatMap (zz_wr zt_hh zp_P zt_cl zm_227.1.1.cls)).map some = ([1113, 1114, 1252] : List Nat).map (fun i => lw_tbl[i]?) := by rfl
set_option maxRecDepth 100000 in
theorem zg_227_1 : (zl_227_1.flatMap (zz_wr zt_hh zp_P zt_cl zm_227.1.1.cls)).all goodWord = true := by decide +kernel
set_option maxRecDepth 100000 in
theorem zr_227_1 : (zl_227_1.flatMap (zz_wn zp_P zm_227.1.1.cls)).map some = ([] : List Nat).map (fun i => lw_tbl[i]?) := by rfl
set_option maxRecDepth 100000 in
theorem zs_227_1 : (zl_227_1.flatMap (zz_wn zp_P zm_227.1.1.cls)).all zz_isN = true := by decide +kernel
set_option maxRecDepth 100000 in
theorem zb_227_1 : zl_227_1.all (fun r => zz_wb zt_hh zp_P zt_cl zt_tf zt_fd zt_nf zm_227.1.1.cls zm_227.1.1.name r) = true := by decide +kernel
set_option maxRecDepth 100000 in
theorem zy_227_0 : zl_227_0.all (fun r => zz_tb zt_hh zp_P zm_227 r) = true := by decide +kernel
set_option maxRecDepth 100000 in
theorem zy_227_1 : zl_227_1.all (fun r => zz_tb zt_hh zp_P zm_227 r) = true := by decide +kernel
theorem zw_227 : zz_okW zt_hh zp_P zt_cl zt_tf zt_fd zt_nf zt_T zt_N zm_227 := List.forall_mem_cons.mpr ⟨(zz_w_okL zd_227_0 zb_227_0 (zz_places goodWord zq_227_0 zg_227_0) (zz_places zz_isN zr_227_0 zs_227_0) zy_227_0), List.forall_mem_cons.mpr ⟨(zz_w_okL zd_227_1 zb_227_1 (zz_places goodWord zq_227_1 zg_227_1) (zz_places zz_isN zr_227_1 zs_227_1) zy_227_1), (fun _ h => absurd h List.not_mem_nil)⟩⟩
set_option maxRecDepth 100000 in
theorem zq_227 : [zz_cw zt_hh zm_227, Cond.initialized zm_227.1.1.cls].map some = ([1256, 225] : List Nat).map (fun i => lw_tbl[i]?) := by rfl
set_option maxRecDepth 100000 in
theorem zg_227 : [zz_cw zt_hh zm_227, Cond.initialized zm_227.1.1.cls].all goodWord = true := by decide +kernel
set_option maxRecDepth 100000 in
theorem zb_227 : (plainName zm_227.1.1.cls && (decide (zm_227.1.1.cls ≠ "java/lang/invoke/MethodHandle" ∧ zm_227.1.1.cls ≠ "java/lang/invoke/VarHandle") && decide (zm_227.1.2.2.1 ≤ 40))) = true := by decide +kernel
theorem zo_227 : zz_okM zt_hh zp_P zt_cl zt_tf zt_fd zt_nf zt_T zt_N zm_227 := zz_w_okM zw_227 zb_227 (zz_places goodWord zq_227 zg_227)
set_option maxRecDepth 100000 in
theorem zd_228_0 : ∀ r ∈ zl_228_0, decode zm_228.1.2.1 r.1 = .ok (r.2.1, r.2.2.1) := by decide +kernel
set_option maxRecDepth 100000 in
theorem zq_228_0 : (zl_228_0.flatMap (zz_wr zt_hh zp_P zt_cl zm_228.1.1.cls)).map some = ([465, 1210, 1125, 1126, 1217, 465, 1104, 1105, 1246, 465, 465, 1248, 1249, 1247, 465, 1248, 1249, 1247, 1232, 49, 1230, 1088, 1108, 1109, 1251] : List Nat).map (fun i => lw_tbl[i]?) := by rfl
set_option maxRecDepth 100000 in
theorem zg_228_0 : (zl_228_0.flatMap (zz_wr zt_hh zp_P zt_cl zm_228.1.1.cls)).all goodWord = true := by decide +kernel
set_option maxRecDepth 100000 in
theorem zr_228_0 : (zl_228_0.flatMap (zz_wn zp_P zm_228.1.1.cls)).map some = ([1209, 1241] : List Nat).map (fun i => lw_tbl[i]?) := by rfl
set_option maxRecDepth 100000 in
theorem zs_228_0 : (zl_228_0.flatMap (zz_wn zp_P zm_228.1.1.cls)).all zz_isN = true := by decide +kernel
set_option maxRecDepth 100000 in
theorem zb_228_0 : zl_228_0.all (fun r => zz_wb zt_hh zp_P zt_cl zt_tf zt_fd zt_nf zm_228.1.1.cls zm_228.1.1.name r) = true := by decide +kernel
set_option maxRecDepth 100000 in
theorem zd_228_1 : ∀ r ∈ zl_228_1, decode zm_228.1.2.1 r.1 = .ok (r.2.1, r.2.2.1) := by decide +kernel
set_option maxRecDepth 100000 in
theorem zq_228_1 : (zl_228_1.flatMap (zz_wr zt_hh zp_P zt_cl zm_228.1.1.cls)).map some = ([465, 1113, 1114, 1252] : List Nat).map (fun i => lw_tbl[i]?) := by rfl
set_option maxRecDepth 100000 in
theorem zg_228_1 : (zl_228_1.flatMap (zz_wr zt_hh zp_P zt_cl zm_228.1.1.cls)).all goodWord = true := by decide +kernel
set_option maxRecDepth 100000 in
theorem zr_228_1 : (zl_228_1.flatMap (zz_wn zp_P zm_228.1.1.cls)).map some = ([] : List Nat).map (fun i => lw_tbl[i]?) := by rfl
set_option maxRecDepth 100000 in
theorem zs_228_1 : (zl_228_1.flatMap (zz_wn zp_P zm_228.1.1.cls)).all zz_isN = true := by decide +kernel
set_option maxRecDepth 100000 in
theorem zb_228_1 : zl_228_1.all (fun r => zz_wb zt_hh zp_P zt_cl zt_tf zt_fd zt_nf zm_228.1.1.cls zm_228.1.1.name r) = true := by decide +kernel
set_option maxRecDepth 100000 in
theorem zy_228_0 : zl_228_0.all (fun r => zz_tb zt_hh zp_P zm_228 r) = true := by decide +kernel
set_option maxRecDepth 100000 in
theorem zy_228_1 : zl_228_1.all (fun r => zz_tb zt_hh zp_P zm_228 r) = true := by decide +kernel
theorem zw_228 : zz_okW zt_hh zp_P zt_cl zt_tf zt_fd zt_nf zt_T zt_N zm_228 := List.forall_mem_cons.mpr ⟨(zz_w_okL zd_228_0 zb_228_0 (zz_places goodWord zq_228_0 zg_228_0) (zz_places zz_isN zr_228_0 zs_228_0) zy_228_0), List.forall_mem_cons.mpr ⟨(zz_w_okL zd_228_1 zb_228_1 (zz_places goodWord zq_228_1 zg_228_1) (zz_places zz_isN zr_228_1 zs_228_1) zy_228_1), (fun _ h => absurd h List.not_mem_nil)⟩⟩
set_option maxRecDepth 100000 in
theorem zq_228 : [zz_cw zt_hh zm_228, Cond.initialized zm_228.1.1.cls].map some = ([1245, 225] : List Nat).map (fun i => lw_tbl[i]?) := by rfl
set_option maxRecDepth 100000 in
theorem zg_228 : [zz_cw zt_hh zm_228, Cond.initialized zm_228.1.1.cls].all goodWord = true := by decide +kernel
set_option maxRecDepth 100000 in
theorem zb_228 : (plainName zm_228.1.1.cls && (decide (zm_228.1.1.cls ≠ "java/lang/invoke/MethodHandle" ∧ zm_228.1.1.cls ≠ "java/lang/invoke/VarHandle") && decide (zm_228.1.2.2.1 ≤ 40))) = true := by decide +kernel
theorem zo_228 : zz_okM zt_hh zp_P zt_cl zt_tf zt_fd zt_nf zt_T zt_N zm_228 := zz_w_okM zw_228 zb_228 (zz_places goodWord zq_228 zg_228)
set_option maxRecDepth 100000 in
theorem zd_229_0 : ∀ r ∈ zl_229_0, decode zm_229.1.2.1 r.1 = .ok (r.2.1, r.2.2.1) := by decide +kernel
set_option maxRecDepth 100000 in
theorem zq_229_0 : (zl_229_0.flatMap (zz_wr zt_hh zp_P zt_cl zm_229.1.1.cls)).map some = ([1210, 465, 1223, 1224, 1222] : List Nat).map (fun i => lw_tbl[i]?) := by rfl
set_option maxRecDepth 100000 in
theorem zg_229_0 : (zl_229_0.flatMap (zz_wr zt_hh zp_P zt_cl zm_229.1.1.cls)).all goodWord = true := by decide +kernel
set_option maxRecDepth 100000 in
theorem zr_229_0 : (zl_229_0.flatMap (zz_wn zp_P zm_229.1.1.cls)).map some = ([1209] : List Nat).map (fun i => lw_tbl[i]?) := by rfl
set_option maxRecDepth 100000 in
theorem zs_229_0 : (zl_229_0.flatMap (zz_wn zp_P zm_229.1.1.cls)).all zz_isN = true := by decide +kernel
set_option maxRecDepth 100000 in
theorem zb_229_0 : zl_229_0.all (fun r => zz_wb zt_hh zp_P zt_cl zt_tf zt_fd zt_nf zm_229.1.1.cls zm_229.1.1.name r) = true := by decide +kernel
set_option maxRecDepth 100000 in
theorem zy_229_0 : zl_229_0.all (fun r => zz_tb zt_hh zp_P zm_229 r) = true := by decide +kernel
theorem zw_229 : zz_okW zt_hh zp_P zt_cl zt_tf zt_fd zt_nf zt_T zt_N zm_229 := List.forall_mem_cons.mpr ⟨(zz_w_okL zd_229_0 zb_229_0 (zz_places goodWord zq_229_0 zg_229_0) (zz_places zz_isN zr_229_0 zs_229_0) zy_229_0), (fun _ h => absurd h List.not_mem_nil)⟩
set_option maxRecDepth 100000 in
theorem zq_229 : [zz_cw zt_hh zm_229, Cond.initialized zm_229.1.1.cls].map some = ([1221, 225] : List Nat).map (fun i => lw_tbl[i]?) := by rfl
set_option maxRecDepth 100000 in
theorem zg_229 : [zz_cw zt_hh zm_229, Cond.initialized zm_229.1.1.cls].all goodWord = true := by decide +kernel
set_option maxRecDepth 100000 in
theorem zb_229 : (plainName zm_229.1.1.cls && (decide (zm_229.1.1.cls ≠ "java/lang/invoke/MethodHandle" ∧ zm_229.1.1.cls ≠ "java/lang/invoke/VarHandle") && decide (zm_229.1.2.2.1 ≤ 40))) = true := by decide +kernel
theorem zo_229 : zz_okM zt_hh zp_P zt_cl zt_tf zt_fd zt_nf zt_T zt_N zm_229 := zz_w_okM zw_229 zb_229 (zz_places goodWord zq_229 zg_229)
set_option maxRecDepth 100000 in
theorem zd_230_0 : ∀ r ∈ zl_230_0, decode zm_230.1.2.1 r.1 = .ok (r.2.1, r.2.2.1) := by decide +kernel
set_option maxRecDepth 100000 in
theorem zq_230_0 : (zl_230_0.flatMap (zz_wr zt_hh zp_P zt_cl zm_230.1.1.cls)).map some = ([1236, 50, 1234, 1239, 1238] : List Nat).map (fun i => lw_tbl[i]?) := by rfl
set_option maxRecDepth 100000 in
theorem zg_230_0 : (zl_230_0.flatMap (zz_wr zt_hh zp_P zt_cl zm_230.1.1.cls)).all goodWord = true := by decide +kernel
set_option maxRecDepth 100000 in
theorem zr_230_0 : (zl_230_0.flatMap (zz_wn zp_P zm_230.1.1.cls)).map some = ([] : List Nat).map (fun i => lw_tbl[i]?) := by rfl
set_option maxRecDepth 100000 in
theorem zs_230_0 : (zl_230_0.flatMap (zz_wn zp_P zm_230.1.1.cls)).all zz_isN = true := by decide +kernel
set_option maxRecDepth 100000 in
theorem zb_230_0 : zl_230_0.all (fun r => zz_wb zt_hh zp_P zt_cl zt_tf zt_fd zt_nf zm_230.1.1.cls zm_230.1.1.name r) = true := by decide +kernel
set_option maxRecDepth 100000 in
theorem zy_230_0 : zl_230_0.all (fun r => zz_tb zt_hh zp_P zm_230 r) = true := by decide +kernel
theorem zw_230 : zz_okW zt_hh zp_P zt_cl zt_tf zt_fd zt_nf zt_T zt_N zm_230 := List.forall_mem_cons.mpr ⟨(zz_w_okL zd_230_0 zb_230_0 (zz_places goodWord zq_230_0 zg_230_0) (zz_places zz_isN zr_230_0 zs_230_0) zy_230_0), (fun _ h => absurd h List.not_mem_nil)⟩
set_option maxRecDepth 100000 in
theorem zq_230 : [zz_cw zt_hh zm_230, Cond.initialized zm_230.1.1.cls].map some = ([1233, 225] : List Nat).map (fun i => lw_tbl[i]?) := by rfl
set_option maxRecDepth 100000 in
theorem zg_230 : [zz_cw zt_hh zm_230, Cond.initialized zm_230.1.1.cls].all goodWord = true := by decide +kernel
set_option maxRecDepth 100000 in
theorem zb_230 : (plainName zm_230.1.1.cls && (decide (zm_230.1.1.cls ≠ "java/lang/invoke/MethodHandle" ∧ zm_230.1.1.cls ≠ "java/lang/invoke/VarHandle") && decide (zm_230.1.2.2.1 ≤ 40))) = true := by decide +kernel
theorem zo_230 : zz_okM zt_hh zp_P zt_cl zt_tf zt_fd zt_nf zt_T zt_N zm_230 := zz_w_okM zw_230 zb_230 (zz_places goodWord zq_230 zg_230)
set_option maxRecDepth 100000 in
theorem zd_231_0 : ∀ r ∈ zl_231_0, decode zm_231.1.2.1 r.1 = .ok (r.2.1, r.2.2.1) := by decide +kernel
set_option maxRecDepth 100000 in
theorem zq_231_0 : (zl_231_0.flatMap (zz_wr zt_hh zp_P zt_cl zm_231.1.1.cls)).map some = ([466] : List Nat).map (fun i => lw_tbl[i]?) := by rfl
set_option maxRecDepth 100000 in
theorem zg_231_0 : (zl_231_0.flatMap (zz_wr zt_hh zp_P zt_cl zm_231.1.1.cls)).all goodWord = true := by decide +kernel
set_option maxRecDepth 100000 in
theorem zr_231_0 : (zl_231_0.flatMap (zz_wn zp_P zm_231.1.1.cls)).map some = ([] : List Nat).map (fun i => lw_tbl[i]?) := by rfl
set_option maxRecDepth 100000 in
theorem zs_231_0 : (zl_231_0.flatMap (zz_wn zp_P zm_231.1.1.cls)).all zz_isN = true := by decide +kernel
set_option maxRecDepth 100000 in
theorem zb_231_0 : zl_231_0.all (fun r => zz_wb zt_hh zp_P zt_cl zt_tf zt_fd zt_nf zm_231.1.1.cls zm_231.1.1.name r) = true := by decide +kernel
set_option maxRecDepth 100000 in
theorem zy_231_0 : zl_231_0.all (fun r => zz_tb zt_hh zp_P zm_231 r) = true := by decide +kernel
theorem zw_231 : zz_okW zt_hh zp_P zt_cl zt_tf zt_fd zt_nf zt_T zt_N zm_231 := List.forall_mem_cons.mpr ⟨(zz_w_okL zd_231_0 zb_231_0 (zz_places goodWord zq_231_0 zg_231_0) (zz_places zz_isN zr_231_0 zs_231_0) zy_231_0), (fun _ h => absurd h List.not_mem_nil)⟩
set_option maxRecDepth 100000 in
theorem zq_231 : [zz_cw zt_hh zm_231, Cond.initialized zm_231.1.1.cls].map some = ([1237, 225] : List Nat).map (fun i => lw_tbl[i]?) := by rfl
set_option maxRecDepth 100000 in
theorem zg_231 : [zz_cw zt_hh zm_231, Cond.initialized zm_231.1.1.cls].all goodWord = true := by decide +kernel
set_option maxRecDepth 100000 in
theorem zb_231 : (plainName zm_231.1.1.cls && (decide (zm_231.1.1.cls ≠ "java/lang/invoke/MethodHandle" ∧ zm_231.1.1.cls ≠ "java/lang/invoke/VarHandle") && decide (zm_231.1.2.2.1 ≤ 40))) = true := by decide +kernel
theorem zo_231 : zz_okM zt_hh zp_P zt_cl zt_tf zt_fd zt_nf zt_T zt_N zm_231 := zz_w_okM zw_231 zb_231 (zz_places goodWord zq_231 zg_231)
set_option maxRecDepth 100000 in
theorem zd_232_0 : ∀ r ∈ zl_232_0, decode zm_232.1.2.1 r.1 = .ok (r.2.1, r.2.2.1) := by decide +kernel
set_option maxRecDepth 100000 in
theorem zq_232_0 : (zl_232_0.flatMap (zz_wr zt_hh zp_P zt_cl zm_232.1.1.cls)).map some = ([] : List Nat).map (fun i => lw_tbl[i]?) := by rfl
set_option maxRecDepth 100000 in
theorem zg_232_0 : (zl_232_0.flatMap (zz_wr zt_hh zp_P zt_cl zm_232.1.1.cls)).all goodWord = true := by decide +kernel
set_option maxRecDepth 100000 in
theorem zr_232_0 : (zl_232_0.flatMap (zz_wn zp_P zm_232.1.1.cls)).map some = ([] : List Nat).map (fun i => lw_tbl[i]?) := by rfl
set_option maxRecDepth 100000 in
theorem zs_232_0 : (zl_232_0.flatMap (zz_wn zp_P zm_232.1.1.cls)).all zz_isN = true := by decide +kernel
set_option maxRecDepth 100000 in
theorem zb_232_0 : zl_232_0.all (fun r => zz_wb zt_hh zp_P zt_cl zt_tf zt_fd zt_nf zm_232.1.1.cls zm_232.1.1.name r) = true := by decide +kernel
set_option maxRecDepth 100000 in
theorem zd_232_1 : ∀ r ∈ zl_232_1, decode zm_232.1.2.1 r.1 = .ok (r.2.1, r.2.2.1) := by decide +kernel
set_option maxRecDepth 100000 in
theorem zq_232_1 : (zl_232_1.flatMap (zz_wr zt_hh zp_P zt_cl zm_232.1.1.cls)).map some = ([] : List Nat).map (fun i => lw_tbl[i]?) := by rfl
set_option maxRecDepth 100000 in
theorem zg_232_1 : (zl_232_1.flatMap (zz_wr zt_hh zp_P zt_cl zm_232.1.1.cls)).all goodWord = true := by decide +kernel
set_option maxRecDepth 100000 in
theorem zr_232_1 : (zl_232_1.flatMap (zz_wn zp_P zm_232.1.1.cls)).map some = ([] : List Nat).map (fun i => lw_tbl[i]?) := by rfl
set_option maxRecDepth 100000 in
theorem zs_232_1 : (zl_232_1.flatMap (zz_wn zp_P zm_232.1.1.cls)).all zz_isN = true := by decide +kernel
set_option maxRecDepth 100000 in
theorem zb_232_1 : zl_232_1.all (fun r => zz_wb zt_hh zp_P zt_cl zt_tf zt_fd zt_nf zm_232.1.1.cls zm_232.1.1.name r) = true := by decide +kernel
set_option maxRecDepth 100000 in
theorem zy_232_0 : zl_232_0.all (fun r => zz_tb zt_hh zp_P zm_232 r) = true := by decide +kernel
set_option maxRecDepth 100000 in
theorem zy_232_1 : zl_232_1.all (fun r => zz_tb zt_hh zp_P zm_232 r) = true := by decide +kernel
theorem zw_232 : zz_okW zt_hh zp_P zt_cl zt_tf zt_fd zt_nf zt_T zt_N zm_232 := List.forall_mem_cons.mpr ⟨(zz_w_okL zd_232_0 zb_232_0 (zz_places goodWord zq_232_0 zg_232_0) (zz_places zz_isN zr_232_0 zs_232_0) zy_232_0), List.forall_mem_cons.mpr ⟨(zz_w_okL zd_232_1 zb_232_1 (zz_places goodWord zq_232_1 zg_232_1) (zz_places zz_isN zr_232_1 zs_232_1) zy_232_1), (fun _ h => absurd h List.not_mem_nil)⟩⟩
set_option maxRecDepth 100000 in
theorem zq_232 : [zz_cw zt_hh zm_232, Cond.initialized zm_232.1.1.cls].map some = ([1240, 225] : List Nat).map (fun i => lw_tbl[i]?) := by rfl
set_option maxRecDepth 100000 in
theorem zg_232 : [zz_cw zt_hh zm_232, Cond.initialized zm_232.1.1.cls].all goodWord = true := by decide +kernel
set_option maxRecDepth 100000 in
theorem zb_232 : (plainName zm_232.1.1.cls && (decide (zm_232.1.1.cls ≠ "java/lang/invoke/MethodHandle" ∧ zm_232.1.1.cls ≠ "java/lang/invoke/VarHandle") && decide (zm_232.1.2.2.1 ≤ 40))) = true := by decide +kernel
theorem zo_232 : zz_okM zt_hh zp_P zt_cl zt_tf zt_fd zt_nf zt_T zt_N zm_232 := zz_w_okM zw_232 zb_232 (zz_places goodWord zq_232 zg_232)
set_option maxRecDepth 100000 in
theorem zd_233_0 : ∀ r ∈ zl_233_0, decode zm_233.1.2.1 r.1 = .ok (r.2.1, r.2.2.1) := by decide +kernel
set_option maxRecDepth 100000 in
theorem zq_233_0 : (zl_233_0.flatMap (zz_wr zt_hh zp_P zt_cl zm_233.1.1.cls)).map some = ([425, 426, 427, 428, 429, 430, 1081, 35, 1079] : List Nat).map (fun i => lw_tbl[i]?) := by rfl
set_option maxRecDepth 100000 in
theorem zg_233_0 : (zl_233_0.flatMap (zz_wr zt_hh zp_P zt_cl zm_233.1.1.cls)).all goodWord = true := by decide +kernel
set_option maxRecDepth 100000 in
theorem zr_233_0 : (zl_233_0.flatMap (zz_wn zp_P zm_233.1.1.cls)).map some = ([] : List Nat).map (fun i => lw_tbl[i]?) := by rfl
set_option maxRecDepth 100000 in
theorem zs_233_0 : (zl_233_0.flatMap (zz_wn zp_P zm_233.1.1.cls)).all zz_isN = true := by decide +kernel
set_option maxRecDepth 100000 in
theorem zb_233_0 : zl_233_0.all (fun r => zz_wb zt_hh zp_P zt_cl zt_tf zt_fd zt_nf zm_233.1.1.cls zm_233.1.1.name r) = true := by decide +kernel
set_option maxRecDepth 100000 in
theorem zy_233_0 : zl_233_0.all (fun r => zz_tb zt_hh zp_P zm_233 r) = true := by decide +kernel
theorem zw_233 : zz_okW zt_hh zp_P zt_cl zt_tf zt_fd zt_nf zt_T zt_N zm_233 := List.forall_mem_cons.mpr ⟨(zz_w_okL zd_233_0 zb_233_0 (zz_places goodWord zq_233_0 zg_233_0) (zz_places zz_isN zr_233_0 zs_233_0) zy_233_0), (fun _ h => absurd h List.not_mem_nil)⟩
set_option maxRecDepth 100000 in
theorem zq_233 : [zz_cw zt_hh zm_233, Cond.initialized zm_233.1.1.cls].map some = ([1078, 223] : List Nat).map (fun i => lw_tbl[i]?) := by rfl
set_option maxRecDepth 100000 in
theorem zg_233 : [zz_cw zt_hh zm_233, Cond.initialized zm_233.1.1.cls].all goodWord = true := by decide +kernel
set_option maxRecDepth 100000 in
theorem zb_233 : (plainName zm_233.1.1.cls && (decide (zm_233.1.1.cls ≠ "java/lang/invoke/MethodHandle" ∧ zm_233.1.1.cls ≠ "java/lang/invoke/VarHandle") && decide (zm_233.1.2.2.1 ≤ 40))) = true := by decide +kernel
theorem zo_233 : zz_okM zt_hh zp_P zt_cl zt_tf zt_fd zt_nf zt_T zt_N zm_233 := zz_w_okM zw_233 zb_233 (zz_places goodWord zq_233 zg_233)
set_option maxRecDepth 100000 in
theorem zd_234_0 : ∀ r ∈ zl_234_0, decode zm_234.1.2.1 r.1 = .ok (r.2.1, r.2.2.1) := by decide +kernel
set_option maxRecDepth 100000 in
theorem zq_234_0 : (zl_234_0.flatMap (zz_wr zt_hh zp_P zt_cl zm_234.1.1.cls)).map some = ([431] : List Nat).map (fun i => lw_tbl[i]?) := by rfl
set_option maxRecDepth 100000 in
theorem zg_234_0 : (zl_234_0.flatMap (zz_wr zt_hh zp_P zt_cl zm_234.1.1.cls)).all goodWord = true := by decide +kernel
set_option maxRecDepth 100000 in
theorem zr_234_0 : (zl_234_0.flatMap (zz_wn zp_P zm_234.1.1.cls)).map some = ([] : List Nat).map (fun i => lw_tbl[i]?) := by rfl
set_option maxRecDepth 100000 in
theorem zs_234_0 : (zl_234_0.flatMap (zz_wn zp_P zm_234.1.1.cls)).all zz_isN = true := by decide +kernel
