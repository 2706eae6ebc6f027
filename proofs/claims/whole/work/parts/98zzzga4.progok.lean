set_option maxRecDepth 100000 in
theorem zb_234_0 : zl_234_0.all (fun r => zz_wb zt_hh zp_P zt_cl zt_tf zt_fd zt_nf zm_234.1.1.cls zm_234.1.1.name r) = true := by decide +kernel
set_option maxRecDepth 100000 in
theorem zy_234_0 : zl_234_0.all (fun r => zz_tb zt_hh zp_P zm_234 r) = true := by decide +kernel
theorem zw_234 : zz_okW zt_hh zp_P zt_cl zt_tf zt_fd zt_nf zt_T zt_N zm_234 := List.forall_mem_cons.mpr ⟨(zz_w_okL zd_234_0 zb_234_0 (zz_places goodWord zq_234_0 zg_234_0) (zz_places zz_isN zr_234_0 zs_234_0) zy_234_0), (fun _ h => absurd h List.not_mem_nil)⟩
set_option maxRecDepth 100000 in
theorem zq_234 : [zz_cw zt_hh zm_234, Cond.initialized zm_234.1.1.cls].map some = ([1591, 223] : List Nat).map (fun i => lw_tbl[i]?) := by rfl
set_option maxRecDepth 100000 in
theorem zg_234 : [zz_cw zt_hh zm_234, Cond.initialized zm_234.1.1.cls].all goodWord = true := by decide +kernel
set_option maxRecDepth 100000 in
theorem zb_234 : (plainName zm_234.1.1.cls && (decide (zm_234.1.1.cls ≠ "java/lang/invoke/MethodHandle" ∧ zm_234.1.1.cls ≠ "java/lang/invoke/VarHandle") && decide (zm_234.1.2.2.1 ≤ 40))) = true := by decide +kernel
theorem zo_234 : zz_okM zt_hh zp_P zt_cl zt_tf zt_fd zt_nf zt_T zt_N zm_234 := zz_w_okM zw_234 zb_234 (zz_places goodWord zq_234 zg_234)
set_option maxRecDepth 100000 in
theorem zd_235_0 : ∀ r ∈ zl_235_0, decode zm_235.1.2.1 r.1 = .ok (r.2.1, r.2.2.1) := by decide +kernel
set_option maxRecDepth 100000 in
theorem zq_235_0 : (zl_235_0.flatMap (zz_wr zt_hh zp_P zt_cl zm_235.1.1.cls)).map some = ([427, 426, 427, 427] : List Nat).map (fun i => lw_tbl[i]?) := by rfl
set_option maxRecDepth 100000 in
theorem zg_235_0 : (zl_235_0.flatMap (zz_wr zt_hh zp_P zt_cl zm_235.1.1.cls)).all goodWord = true := by decide +kernel
set_option maxRecDepth 100000 in
theorem zr_235_0 : (zl_235_0.flatMap (zz_wn zp_P zm_235.1.1.cls)).map some = ([] : List Nat).map (fun i => lw_tbl[i]?) := by rfl
set_option maxRecDepth 100000 in
theorem zs_235_0 : (zl_235_0.flatMap (zz_wn zp_P zm_235.1.1.cls)).all zz_isN = true := by decide +kernel
set_option maxRecDepth 100000 in
theorem zb_235_0 : zl_235_0.all (fun r => zz_wb zt_hh zp_P zt_cl zt_tf zt_fd zt_nf zm_235.1.1.cls zm_235.1.1.name r) = true := by decide +kernel
set_option maxRecDepth 100000 in
theorem zy_235_0 : zl_235_0.all (fun r => zz_tb zt_hh zp_P zm_235 r) = true := by decide +kernel
theorem zw_235 : zz_okW zt_hh zp_P zt_cl zt_tf zt_fd zt_nf zt_T zt_N zm_235 := List.forall_mem_cons.mpr ⟨(zz_w_okL zd_235_0 zb_235_0 (zz_places goodWord zq_235_0 zg_235_0) (zz_places zz_isN zr_235_0 zs_235_0) zy_235_0), (fun _ h => absurd h List.not_mem_nil)⟩
set_option maxRecDepth 100000 in
theorem zq_235 : [zz_cw zt_hh zm_235, Cond.initialized zm_235.1.1.cls].map some = ([1192, 223] : List Nat).map (fun i => lw_tbl[i]?) := by rfl
set_option maxRecDepth 100000 in
theorem zg_235 : [zz_cw zt_hh zm_235, Cond.initialized zm_235.1.1.cls].all goodWord = true := by decide +kernel
set_option maxRecDepth 100000 in
theorem zb_235 : (plainName zm_235.1.1.cls && (decide (zm_235.1.1.cls ≠ "java/lang/invoke/MethodHandle" ∧ zm_235.1.1.cls ≠ "java/lang/invoke/VarHandle") && decide (zm_235.1.2.2.1 ≤ 40))) = true := by decide +kernel
theorem zo_235 : zz_okM zt_hh zp_P zt_cl zt_tf zt_fd zt_nf zt_T zt_N zm_235 := zz_w_okM zw_235 zb_235 (zz_places goodWord zq_235 zg_235)
set_option maxRecDepth 100000 in
theorem zd_236_0 : ∀ r ∈ zl_236_0, decode zm_236.1.2.1 r.1 = .ok (r.2.1, r.2.2.1) := by decide +kernel
set_option maxRecDepth 100000 in
theorem zq_236_0 : (zl_236_0.flatMap (zz_wr zt_hh zp_P zt_cl zm_236.1.1.cls)).map some = ([428, 428, 428] : List Nat).map (fun i => lw_tbl[i]?) := by rfl
set_option maxRecDepth 100000 in
theorem zg_236_0 : (zl_236_0.flatMap (zz_wr zt_hh zp_P zt_cl zm_236.1.1.cls)).all goodWord = true := by decide +kernel
set_option maxRecDepth 100000 in
theorem zr_236_0 : (zl_236_0.flatMap (zz_wn zp_P zm_236.1.1.cls)).map some = ([] : List Nat).map (fun i => lw_tbl[i]?) := by rfl
set_option maxRecDepth 100000 in
theorem zs_236_0 : (zl_236_0.flatMap (zz_wn zp_P zm_236.1.1.cls)).all zz_isN = true := by decide +kernel
set_option maxRecDepth 100000 in
theorem zb_236_0 : zl_236_0.all (fun r => zz_wb zt_hh zp_P zt_cl zt_tf zt_fd zt_nf zm_236.1.1.cls zm_236.1.1.name r) = true := by decide +kernel
set_option maxRecDepth 100000 in
theorem zy_236_0 : zl_236_0.all (fun r => zz_tb zt_hh zp_P zm_236 r) = true := by decide +kernel
theorem zw_236 : zz_okW zt_hh zp_P zt_cl zt_tf zt_fd zt_nf zt_T zt_N zm_236 := List.forall_mem_cons.mpr ⟨(zz_w_okL zd_236_0 zb_236_0 (zz_places goodWord zq_236_0 zg_236_0) (zz_places zz_isN zr_236_0 zs_236_0) zy_236_0), (fun _ h => absurd h List.not_mem_nil)⟩
set_option maxRecDepth 100000 in
theorem zq_236 : [zz_cw zt_hh zm_236, Cond.initialized zm_236.1.1.cls].map some = ([1275, 223] : List Nat).map (fun i => lw_tbl[i]?) := by rfl
set_option maxRecDepth 100000 in
theorem zg_236 : [zz_cw zt_hh zm_236, Cond.initialized zm_236.1.1.cls].all goodWord = true := by decide +kernel
set_option maxRecDepth 100000 in
theorem zb_236 : (plainName zm_236.1.1.cls && (decide (zm_236.1.1.cls ≠ "java/lang/invoke/MethodHandle" ∧ zm_236.1.1.cls ≠ "java/lang/invoke/VarHandle") && decide (zm_236.1.2.2.1 ≤ 40))) = true := by decide +kernel
theorem zo_236 : zz_okM zt_hh zp_P zt_cl zt_tf zt_fd zt_nf zt_T zt_N zm_236 := zz_w_okM zw_236 zb_236 (zz_places goodWord zq_236 zg_236)
set_option maxRecDepth 100000 in
theorem zd_237_0 : ∀ r ∈ zl_237_0, decode zm_237.1.2.1 r.1 = .ok (r.2.1, r.2.2.1) := by decide +kernel
set_option maxRecDepth 100000 in
theorem zq_237_0 : (zl_237_0.flatMap (zz_wr zt_hh zp_P zt_cl zm_237.1.1.cls)).map some = ([429, 1160, 701, 228, 702, 429] : List Nat).map (fun i => lw_tbl[i]?) := by rfl
set_option maxRecDepth 100000 in
theorem zg_237_0 : (zl_237_0.flatMap (zz_wr zt_hh zp_P zt_cl zm_237.1.1.cls)).all goodWord = true := by decide +kernel
set_option maxRecDepth 100000 in
theorem zr_237_0 : (zl_237_0.flatMap (zz_wn zp_P zm_237.1.1.cls)).map some = ([] : List Nat).map (fun i => lw_tbl[i]?) := by rfl
set_option maxRecDepth 100000 in
theorem zs_237_0 : (zl_237_0.flatMap (zz_wn zp_P zm_237.1.1.cls)).all zz_isN = true := by decide +kernel
set_option maxRecDepth 100000 in
theorem zb_237_0 : zl_237_0.all (fun r => zz_wb zt_hh zp_P zt_cl zt_tf zt_fd zt_nf zm_237.1.1.cls zm_237.1.1.name r) = true := by decide +kernel
set_option maxRecDepth 100000 in
theorem zy_237_0 : zl_237_0.all (fun r => zz_tb zt_hh zp_P zm_237 r) = true := by decide +kernel
theorem zw_237 : zz_okW zt_hh zp_P zt_cl zt_tf zt_fd zt_nf zt_T zt_N zm_237 := List.forall_mem_cons.mpr ⟨(zz_w_okL zd_237_0 zb_237_0 (zz_places goodWord zq_237_0 zg_237_0) (zz_places zz_isN zr_237_0 zs_237_0) zy_237_0), (fun _ h => absurd h List.not_mem_nil)⟩
set_option maxRecDepth 100000 in
theorem zq_237 : [zz_cw zt_hh zm_237, Cond.initialized zm_237.1.1.cls].map some = ([1159, 223] : List Nat).map (fun i => lw_tbl[i]?) := by rfl
set_option maxRecDepth 100000 in
theorem zg_237 : [zz_cw zt_hh zm_237, Cond.initialized zm_237.1.1.cls].all goodWord = true := by decide +kernel
set_option maxRecDepth 100000 in
theorem zb_237 : (plainName zm_237.1.1.cls && (decide (zm_237.1.1.cls ≠ "java/lang/invoke/MethodHandle" ∧ zm_237.1.1.cls ≠ "java/lang/invoke/VarHandle") && decide (zm_237.1.2.2.1 ≤ 40))) = true := by decide +kernel
theorem zo_237 : zz_okM zt_hh zp_P zt_cl zt_tf zt_fd zt_nf zt_T zt_N zm_237 := zz_w_okM zw_237 zb_237 (zz_places goodWord zq_237 zg_237)
set_option maxRecDepth 100000 in
theorem zd_238_0 : ∀ r ∈ zl_238_0, decode zm_238.1.2.1 r.1 = .ok (r.2.1, r.2.2.1) := by decide +kernel
set_option maxRecDepth 100000 in
theorem zq_238_0 : (zl_238_0.flatMap (zz_wr zt_hh zp_P zt_cl zm_238.1.1.cls)).map some = ([431, 432, 433] : List Nat).map (fun i => lw_tbl[i]?) := by rfl
set_option maxRecDepth 100000 in
theorem zg_238_0 : (zl_238_0.flatMap (zz_wr zt_hh zp_P zt_cl zm_238.1.1.cls)).all goodWord = true := by decide +kernel
set_option maxRecDepth 100000 in
theorem zr_238_0 : (zl_238_0.flatMap (zz_wn zp_P zm_238.1.1.cls)).map some = ([] : List Nat).map (fun i => lw_tbl[i]?) := by rfl
set_option maxRecDepth 100000 in
theorem zs_238_0 : (zl_238_0.flatMap (zz_wn zp_P zm_238.1.1.cls)).all zz_isN = true := by decide +kernel
set_option maxRecDepth 100000 in
theorem zb_238_0 : zl_238_0.all (fun r => zz_wb zt_hh zp_P zt_cl zt_tf zt_fd zt_nf zm_238.1.1.cls zm_238.1.1.name r) = true := by decide +kernel
set_option maxRecDepth 100000 in
theorem zy_238_0 : zl_238_0.all (fun r => zz_tb zt_hh zp_P zm_238 r) = true := by decide +kernel
theorem zw_238 : zz_okW zt_hh zp_P zt_cl zt_tf zt_fd zt_nf zt_T zt_N zm_238 := List.forall_mem_cons.mpr ⟨(zz_w_okL zd_238_0 zb_238_0 (zz_places goodWord zq_238_0 zg_238_0) (zz_places zz_isN zr_238_0 zs_238_0) zy_238_0), (fun _ h => absurd h List.not_mem_nil)⟩
set_option maxRecDepth 100000 in
theorem zq_238 : [zz_cw zt_hh zm_238, Cond.initialized zm_238.1.1.cls].map some = ([1154, 223] : List Nat).map (fun i => lw_tbl[i]?) := by rfl
set_option maxRecDepth 100000 in
theorem zg_238 : [zz_cw zt_hh zm_238, Cond.initialized zm_238.1.1.cls].all goodWord = true := by decide +kernel
set_option maxRecDepth 100000 in
theorem zb_238 : (plainName zm_238.1.1.cls && (decide (zm_238.1.1.cls ≠ "java/lang/invoke/MethodHandle" ∧ zm_238.1.1.cls ≠ "java/lang/invoke/VarHandle") && decide (zm_238.1.2.2.1 ≤ 40))) = true := by decide +kernel
theorem zo_238 : zz_okM zt_hh zp_P zt_cl zt_tf zt_fd zt_nf zt_T zt_N zm_238 := zz_w_okM zw_238 zb_238 (zz_places goodWord zq_238 zg_238)
set_option maxRecDepth 100000 in
theorem zd_239_0 : ∀ r ∈ zl_239_0, decode zm_239.1.2.1 r.1 = .ok (r.2.1, r.2.2.1) := by decide +kernel
set_option maxRecDepth 100000 in
theorem zq_239_0 : (zl_239_0.flatMap (zz_wr zt_hh zp_P zt_cl zm_239.1.1.cls)).map some = ([430, 430, 1273, 1274, 1583, 431, 433, 431, 1081, 35, 1079] : List Nat).map (fun i => lw_tbl[i]?) := by rfl
set_option maxRecDepth 100000 in
theorem zg_239_0 : (zl_239_0.flatMap (zz_wr zt_hh zp_P zt_cl zm_239.1.1.cls)).all goodWord = true := by decide +kernel
set_option maxRecDepth 100000 in
theorem zr_239_0 : (zl_239_0.flatMap (zz_wn zp_P zm_239.1.1.cls)).map some = ([] : List Nat).map (fun i => lw_tbl[i]?) := by rfl
set_option maxRecDepth 100000 in
theorem zs_239_0 : (zl_239_0.flatMap (zz_wn zp_P zm_239.1.1.cls)).all zz_isN = true := by decide +kernel
set_option maxRecDepth 100000 in
theorem zb_239_0 : zl_239_0.all (fun r => zz_wb zt_hh zp_P zt_cl zt_tf zt_fd zt_nf zm_239.1.1.cls zm_239.1.1.name r) = true := by decide +kernel
set_option maxRecDepth 100000 in
theorem zy_239_0 : zl_239_0.all (fun r => zz_tb zt_hh zp_P zm_239 r) = true := by decide +kernel
theorem zw_239 : zz_okW zt_hh zp_P zt_cl zt_tf zt_fd zt_nf zt_T zt_N zm_239 := List.forall_mem_cons.mpr ⟨(zz_w_okL zd_239_0 zb_239_0 (zz_places goodWord zq_239_0 zg_239_0) (zz_places zz_isN zr_239_0 zs_239_0) zy_239_0), (fun _ h => absurd h List.not_mem_nil)⟩
set_option maxRecDepth 100000 in
theorem zq_239 : [zz_cw zt_hh zm_239, Cond.initialized zm_239.1.1.cls].map some = ([1582, 223] : List Nat).map (fun i => lw_tbl[i]?) := by rfl
set_option maxRecDepth 100000 in
theorem zg_239 : [zz_cw zt_hh zm_239, Cond.initialized zm_239.1.1.cls].all goodWord = true := by decide +kernel
set_option maxRecDepth 100000 in
theorem zb_239 : (plainName zm_239.1.1.cls && (decide (zm_239.1.1.cls ≠ "java/lang/invoke/MethodHandle" ∧ zm_239.1.1.cls ≠ "java/lang/invoke/VarHandle") && decide (zm_239.1.2.2.1 ≤ 40))) = true := by decide +kernel
theorem zo_239 : zz_okM zt_hh zp_P zt_cl zt_tf zt_fd zt_nf zt_T zt_N zm_239 := zz_w_okM zw_239 zb_239 (zz_places goodWord zq_239 zg_239)
set_option maxRecDepth 100000 in
theorem zd_240_0 : ∀ r ∈ zl_240_0, decode zm_240.1.2.1 r.1 = .ok (r.2.1, r.2.2.1) := by decide +kernel
set_option maxRecDepth 100000 in
theorem zq_240_0 : (zl_240_0.flatMap (zz_wr zt_hh zp_P zt_cl zm_240.1.1.cls)).map some = ([428] : List Nat).map (fun i => lw_tbl[i]?) := by rfl
set_option maxRecDepth 100000 in
theorem zg_240_0 : (zl_240_0.flatMap (zz_wr zt_hh zp_P zt_cl zm_240.1.1.cls)).all goodWord = true := by decide +kernel
set_option maxRecDepth 100000 in
theorem zr_240_0 : (zl_240_0.flatMap (zz_wn zp_P zm_240.1.1.cls)).map some = ([] : List Nat).map (fun i => lw_tbl[i]?) := by rfl
set_option maxRecDepth 100000 in
theorem zs_240_0 : (zl_240_0.flatMap (zz_wn zp_P zm_240.1.1.cls)).all zz_isN = true := by decide +kernel
set_option maxRecDepth 100000 in
theorem zb_240_0 : zl_240_0.all (fun r => zz_wb zt_hh zp_P zt_cl zt_tf zt_fd zt_nf zm_240.1.1.cls zm_240.1.1.name r) = true := by decide +kernel
set_option maxRecDepth 100000 in
theorem zy_240_0 : zl_240_0.all (fun r => zz_tb zt_hh zp_P zm_240 r) = true := by decide +kernel
theorem zw_240 : zz_okW zt_hh zp_P zt_cl zt_tf zt_fd zt_nf zt_T zt_N zm_240 := List.forall_mem_cons.mpr ⟨(zz_w_okL zd_240_0 zb_240_0 (zz_places goodWord zq_240_0 zg_240_0) (zz_places zz_isN zr_240_0 zs_240_0) zy_240_0), (fun _ h => absurd h List.not_mem_nil)⟩
set_option maxRecDepth 100000 in
theorem zq_240 : [zz_cw zt_hh zm_240, Cond.initialized zm_240.1.1.cls].map some = ([1587, 223] : List Nat).map (fun i => lw_tbl[i]?) := by rfl
set_option maxRecDepth 100000 in
theorem zg_240 : [zz_cw zt_hh zm_240, Cond.initialized zm_240.1.1.cls].all goodWord = true := by decide +kernel
set_option maxRecDepth 100000 in
theorem zb_240 : (plainName zm_240.1.1.cls && (decide (zm_240.1.1.cls ≠ "java/lang/invoke/MethodHandle" ∧ zm_240.1.1.cls ≠ "java/lang/invoke/VarHandle") && decide (zm_240.1.2.2.1 ≤ 40))) = true := by decide +kernel
theorem zo_240 : zz_okM zt_hh zp_P zt_cl zt_tf zt_fd zt_nf zt_T zt_N zm_240 := zz_w_okM zw_240 zb_240 (zz_places goodWord zq_240 zg_240)
set_option maxRecDepth 100000 in
theorem zd_241_0 : ∀ r ∈ zl_241_0, decode zm_241.1.2.1 r.1 = .ok (r.2.1, r.2.2.1) := by decide +kernel
set_option maxRecDepth 100000 in
theorem zq_241_0 : (zl_241_0.flatMap (zz_wr zt_hh zp_P zt_cl zm_241.1.1.cls)).map some = ([431, 432, 433] : List Nat).map (fun i => lw_tbl[i]?) := by rfl
set_option maxRecDepth 100000 in
theorem zg_241_0 : (zl_241_0.flatMap (zz_wr zt_hh zp_P zt_cl zm_241.1.1.cls)).all goodWord = true := by decide +kernel
set_option maxRecDepth 100000 in
theorem zr_241_0 : (zl_241_0.flatMap (zz_wn zp_P zm_241.1.1.cls)).map some = ([] : List Nat).map (fun i => lw_tbl[i]?) := by rfl
set_option maxRecDepth 100000 in
theorem zs_241_0 : (zl_241_0.flatMap (zz_wn zp_P zm_241.1.1.cls)).all zz_isN = true := by decide +kernel
set_option maxRecDepth 100000 in
theorem zb_241_0 : zl_241_0.all (fun r => zz_wb zt_hh zp_P zt_cl zt_tf zt_fd zt_nf zm_241.1.1.cls zm_241.1.1.name r) = true := by decide +kernel
set_option maxRecDepth 100000 in
theorem zy_241_0 : zl_241_0.all (fun r => zz_tb zt_hh zp_P zm_241 r) = true := by decide +kernel
theorem zw_241 : zz_okW zt_hh zp_P zt_cl zt_tf zt_fd zt_nf zt_T zt_N zm_241 := List.forall_mem_cons.mpr ⟨(zz_w_okL zd_241_0 zb_241_0 (zz_places goodWord zq_241_0 zg_241_0) (zz_places zz_isN zr_241_0 zs_241_0) zy_241_0), (fun _ h => absurd h List.not_mem_nil)⟩
set_option maxRecDepth 100000 in
theorem zq_241 : [zz_cw zt_hh zm_241, Cond.initialized zm_241.1.1.cls].map some = ([1082, 223] : List Nat).map (fun i => lw_tbl[i]?) := by rfl
set_option maxRecDepth 100000 in
theorem zg_241 : [zz_cw zt_hh zm_241, Cond.initialized zm_241.1.1.cls].all goodWord = true := by decide +kernel
set_option maxRecDepth 100000 in
theorem zb_241 : (plainName zm_241.1.1.cls && (decide (zm_241.1.1.cls ≠ "java/lang/invoke/MethodHandle" ∧ zm_241.1.1.cls ≠ "java/lang/invoke/VarHandle") && decide (zm_241.1.2.2.1 ≤ 40))) = true := by decide +kernel
theorem zo_241 : zz_okM zt_hh zp_P zt_cl zt_tf zt_fd zt_nf zt_T zt_N zm_241 := zz_w_okM zw_241 zb_241 (zz_places goodWord zq_241 zg_241)
set_option maxRecDepth 100000 in
theorem zd_242_0 : ∀ r ∈ zl_242_0, decode zm_242.1.2.1 r.1 = .ok (r.2.1, r.2.2.1) := by decide +kernel
set_option maxRecDepth 100000 in
theorem zq_242_0 : (zl_242_0.flatMap (zz_wr zt_hh zp_P zt_cl zm_242.1.1.cls)).map some = ([267, 266, 263, 267] : List Nat).map (fun i => lw_tbl[i]?) := by rfl
set_option maxRecDepth 100000 in
theorem zg_242_0 : (zl_242_0.flatMap (zz_wr zt_hh zp_P zt_cl zm_242.1.1.cls)).all goodWord = true := by decide +kernel
set_option maxRecDepth 100000 in
theorem zr_242_0 : (zl_242_0.flatMap (zz_wn zp_P zm_242.1.1.cls)).map some = ([] : List Nat).map (fun i => lw_tbl[i]?) := by rfl
set_option maxRecDepth 100000 in
theorem zs_242_0 : (zl_242_0.flatMap (zz_wn zp_P zm_242.1.1.cls)).all zz_isN = true := by decide +kernel
set_option maxRecDepth 100000 in
theorem zb_242_0 : zl_242_0.all (fun r => zz_wb zt_hh zp_P zt_cl zt_tf zt_fd zt_nf zm_242.1.1.cls zm_242.1.1.name r) = true := by decide +kernel
set_option maxRecDepth 100000 in
theorem zy_242_0 : zl_242_0.all (fun r => zz_tb zt_hh zp_P zm_242 r) = true := by decide +kernel
theorem zw_242 : zz_okW zt_hh zp_P zt_cl zt_tf zt_fd zt_nf zt_T zt_N zm_242 := List.forall_mem_cons.mpr ⟨(zz_w_okL zd_242_0 zb_242_0 (zz_places goodWord zq_242_0 zg_242_0) (zz_places zz_isN zr_242_0 zs_242_0) zy_242_0), (fun _ h => absurd h List.not_mem_nil)⟩
set_option maxRecDepth 100000 in
theorem zq_242 : [zz_cw zt_hh zm_242, Cond.initialized zm_242.1.1.cls].map some = ([920, 218] : List Nat).map (fun i => lw_tbl[i]?) := by rfl
set_option maxRecDepth 100000 in
theorem zg_242 : [zz_cw zt_hh zm_242, Cond.initialized zm_242.1.1.cls].all goodWord = true := by decide +kernel
set_option maxRecDepth 100000 in
theorem zb_242 : (plainName zm_242.1.1.cls && (decide (zm_242.1.1.cls ≠ "java/lang/invoke/MethodHandle" ∧ zm_242.1.1.cls ≠ "java/lang/invoke/VarHandle") && decide (zm_242.1.2.2.1 ≤ 40))) = true := by decide +kernel
theorem zo_242 : zz_okM zt_hh zp_P zt_cl zt_tf zt_fd zt_nf zt_T zt_N zm_242 := zz_w_okM zw_242 zb_242 (zz_places goodWord zq_242 zg_242)
set_option maxRecDepth 100000 in
theorem zd_243_0 : ∀ r ∈ zl_243_0, decode zm_243.1.2.1 r.1 = .ok (r.2.1, r.2.2.1) := by decide +kernel
set_option maxRecDepth 100000 in
theorem zq_243_0 : (zl_243_0.flatMap (zz_wr zt_hh zp_P zt_cl zm_243.1.1.cls)).map some = ([269] : List Nat).map (fun i => lw_tbl[i]?) := by rfl
set_option maxRecDepth 100000 in
theorem zg_243_0 : (zl_243_0.flatMap (zz_wr zt_hh zp_P zt_cl zm_243.1.1.cls)).all goodWord = true := by decide +kernel
set_option maxRecDepth 100000 in
theorem zr_243_0 : (zl_243_0.flatMap (zz_wn zp_P zm_243.1.1.cls)).map some = ([] : List Nat).map (fun i => lw_tbl[i]?) := by rfl
set_option maxRecDepth 100000 in
theorem zs_243_0 : (zl_243_0.flatMap (zz_wn zp_P zm_243.1.1.cls)).all zz_isN = true := by decide +kernel
set_option maxRecDepth 100000 in
theorem zb_243_0 : zl_243_0.all (fun r => zz_wb zt_hh zp_P zt_cl zt_tf zt_fd zt_nf zm_243.1.1.cls zm_243.1.1.name r) = true := by decide +kernel
set_option maxRecDepth 100000 in
theorem zy_243_0 : zl_243_0.all (fun r => zz_tb zt_hh zp_P zm_243 r) = true := by decide +kernel
theorem zw_243 : zz_okW zt_hh zp_P zt_cl zt_tf zt_fd zt_nf zt_T zt_N zm_243 := List.forall_mem_cons.mpr ⟨(zz_w_okL zd_243_0 zb_243_0 (zz_places goodWord zq_243_0 zg_243_0) (zz_places zz_isN zr_243_0 zs_243_0) zy_243_0), (fun _ h => absurd h List.not_mem_nil)⟩
set_option maxRecDepth 100000 in
theorem zq_243 : [zz_cw zt_hh zm_243, Cond.initialized zm_243.1.1.cls].map some = ([802, 218] : List Nat).map (fun i => lw_tbl[i]?) := by rfl
set_option maxRecDepth 100000 in
theorem zg_243 : [zz_cw zt_hh zm_243, Cond.initialized zm_243.1.1.cls].all goodWord = true := by decide +kernel
set_option maxRecDepth 100000 in
theorem zb_243 : (plainName zm_243.1.1.cls && (decide (zm_243.1.1.cls ≠ "java/lang/invoke/MethodHandle" ∧ zm_243.1.1.cls ≠ "java/lang/invoke/VarHandle") && decide (zm_243.1.2.2.1 ≤ 40))) = true := by decide +kernel
theorem zo_243 : zz_okM zt_hh zp_P zt_cl zt_tf zt_fd zt_nf zt_T zt_N zm_243 := zz_w_okM zw_243 zb_243 (zz_places goodWord zq_243 zg_243)
set_option maxRecDepth 100000 in
theorem zd_244_0 : ∀ r ∈ zl_244_0, decode zm_244.1.2.1 r.1 = .ok (r.2.1, r.2.2.1) := by decide +kernel
set_option maxRecDepth 100000 in
theorem zq_244_0 : (zl_244_0.flatMap (zz_wr zt_hh zp_P zt_cl zm_244.1.1.cls)).map some = ([270] : List Nat).map (fun i => lw_tbl[i]?) := by rfl
set_option maxRecDepth 100000 in
theorem zg_244_0 : (zl_244_0.flatMap (zz_wr zt_hh zp_P zt_cl zm_244.1.1.cls)).all goodWord = true := by decide +kernel
set_option maxRecDepth 100000 in
theorem zr_244_0 : (zl_244_0.flatMap (zz_wn zp_P zm_244.1.1.cls)).map some = ([] : List Nat).map (fun i => lw_tbl[i]?) := by rfl
set_option maxRecDepth 100000 in
theorem zs_244_0 : (zl_244_0.flatMap (zz_wn zp_P zm_244.1.1.cls)).all zz_isN = true := by decide +kernel
set_option maxRecDepth 100000 in
theorem zb_244_0 : zl_244_0.all (fun r => zz_wb zt_hh zp_P zt_cl zt_tf zt_fd zt_nf zm_244.1.1.cls zm_244.1.1.name r) = true := by decide +kernel
set_option maxRecDepth 100000 in
theorem zy_244_0 : zl_244_0.all (fun r => zz_tb zt_hh zp_P zm_244 r) = true := by decide +kernel
theorem zw_244 : zz_okW zt_hh zp_P zt_cl zt_tf zt_fd zt_nf zt_T zt_N zm_244 := List.forall_mem_cons.mpr ⟨(zz_w_okL zd_244_0 zb_244_0 (zz_places goodWord zq_244_0 zg_244_0) (zz_places zz_isN zr_244_0 zs_244_0) zy_244_0), (fun _ h => absurd h List.not_mem_nil)⟩
set_option maxRecDepth 100000 in
theorem zq_244 : [zz_cw zt_hh zm_244, Cond.initialized zm_244.1.1.cls].map some = ([790, 218] : List Nat).map (fun i => lw_tbl[i]?) := by rfl
set_option maxRecDepth 100000 in
theorem zg_244 : [zz_cw zt_hh zm_244, Cond.initialized zm_244.1.1.cls].all goodWord = true := by decide +kernel
set_option maxRecDepth 100000 in
theorem zb_244 : (plainName zm_244.1.1.cls && (decide (zm_244.1.1.cls ≠ "java/lang/invoke/MethodHandle" ∧ zm_244.1.1.cls ≠ "java/lang/invoke/VarHandle") && decide (zm_244.1.2.2.1 ≤ 40))) = true := by decide +kernel
theorem zo_244 : zz_okM zt_hh zp_P zt_cl zt_tf zt_fd zt_nf zt_T zt_N zm_244 := zz_w_okM zw_244 zb_244 (zz_places goodWord zq_244 zg_244)
set_option maxRecDepth 100000 in
theorem zd_245_0 : ∀ r ∈ zl_245_0, decode zm_245.1.2.1 r.1 = .ok (r.2.1, r.2.2.1) := by decide +kernel
set_option maxRecDepth 100000 in
theorem zq_245_0 : (zl_245_0.flatMap (zz_wr zt_hh zp_P zt_cl zm_245.1.1.cls)).map some = ([657, 658, 635, 2, 633] : List Nat).map (fun i => lw_tbl[i]?) := by rfl
set_option maxRecDepth 100000 in
theorem zg_245_0 : (zl_245_0.flatMap (zz_wr zt_hh zp_P zt_cl zm_245.1.1.cls)).all goodWord = true := by decide +kernel
set_option maxRecDepth 100000 in
theorem zr_245_0 : (zl_245_0.flatMap (zz_wn zp_P zm_245.1.1.cls)).map some = ([] : List Nat).map (fun i => lw_tbl[i]?) := by rfl
set_option maxRecDepth 100000 in
theorem zs_245_0 : (zl_245_0.flatMap (zz_wn zp_P zm_245.1.1.cls)).all zz_isN = true := by decide +kernel
set_option maxRecDepth 100000 in
theorem zb_245_0 : zl_245_0.all (fun r => zz_wb zt_hh zp_P zt_cl zt_tf zt_fd zt_nf zm_245.1.1.cls zm_245.1.1.name r) = true := by decide +kernel
set_option maxRecDepth 100000 in
theorem zd_245_1 : ∀ r ∈ zl_245_1, decode zm_245.1.2.1 r.1 = .ok (r.2.1, r.2.2.1) := by decide +kernel
set_option maxRecDepth 100000 in
theorem zq_245_1 : (zl_245_1.flatMap (zz_wr zt_hh zp_P zt_cl zm_245.1.1.cls)).map some = ([660, 659, 635, 2, 633, 635, 2, 633] : List Nat).map (fun i => lw_tbl[i]?) := by rfl
set_option maxRecDepth 100000 in
theorem zg_245_1 : (zl_245_1.flatMap (zz_wr zt_hh zp_P zt_cl zm_245.1.1.cls)).all goodWord = true := by decide +kernel
set_option maxRecDepth 100000 in
theorem zr_245_1 : (zl_245_1.flatMap (zz_wn zp_P zm_245.1.1.cls)).map some = ([] : List Nat).map (fun i => lw_tbl[i]?) := by rfl
set_option maxRecDepth 100000 in
theorem zs_245_1 : (zl_245_1.flatMap (zz_wn zp_P zm_245.1.1.cls)).all zz_isN = true := by decide +kernel
set_option maxRecDepth 100000 in
theorem zb_245_1 : zl_245_1.all (fun r => zz_wb zt_hh zp_P zt_cl zt_tf zt_fd zt_nf zm_245.1.1.cls zm_245.1.1.name r) = true := by decide +kernel
set_option maxRecDepth 100000 in
theorem zy_245_0 : zl_245_0.all (fun r => zz_tb zt_hh zp_P zm_245 r) = true := by decide +kernel
set_option maxRecDepth 100000 in
theorem zy_245_1 : zl_245_1.all (fun r => zz_tb zt_hh zp_P zm_245 r) = true := by decide +kernel
theorem zw_245 : zz_okW zt_hh zp_P zt_cl zt_tf zt_fd zt_nf zt_T zt_N zm_245 := List.forall_mem_cons.mpr ⟨(zz_w_okL zd_245_0 zb_245_0 (zz_places goodWord zq_245_0 zg_245_0) (zz_places zz_isN zr_245_0 zs_245_0) zy_245_0), List.forall_mem_cons.mpr ⟨(zz_w_okL zd_245_1 zb_245_1 (zz_places goodWord zq_245_1 zg_245_1) (zz_places zz_isN zr_245_1 zs_245_1) zy_245_1), (fun _ h => absurd h List.not_mem_nil)⟩⟩
set_option maxRecDepth 100000 in
theorem zq_245 : [zz_cw zt_hh zm_245, Cond.initialized zm_245.1.1.cls].map some = ([656, 218] : List Nat).map (fun i => lw_tbl[i]?) := by rfl
set_option maxRecDepth 100000 in
theorem zg_245 : [zz_cw zt_hh zm_245, Cond.initialized zm_245.1.1.cls].all goodWord = true := by decide +kernel
set_option maxRecDepth 100000 in
theorem zb_245 : (plainName zm_245.1.1.cls && (decide (zm_245.1.1.cls ≠ "java/lang/invoke/MethodHandle" ∧ zm_245.1.1.cls ≠ "java/lang/invoke/VarHandle") && decide (zm_245.1.2.2.1 ≤ 40))) = true := by decide +kernel
theorem zo_245 : zz_okM zt_hh zp_P zt_cl zt_tf zt_fd zt_nf zt_T zt_N zm_245 := zz_w_okM zw_245 zb_245 (zz_places goodWord zq_245 zg_245)
set_option maxRecDepth 100000 in
theorem zd_246_0 : ∀ r ∈ zl_246_0, decode zm_246.1.2.1 r.1 = .ok (r.2.1, r.2.2.1) := by decide +kernel
set_option maxRecDepth 100000 in
theorem zq_246_0 : (zl_246_0.flatMap (zz_wr zt_hh zp_P zt_cl zm_246.1.1.cls)).map some = ([668, 669, 670] : List Nat).map (fun i => lw_tbl[i]?) := by rfl
set_option maxRecDepth 100000 in
theorem zg_246_0 : (zl_246_0.flatMap (zz_wr zt_hh zp_P zt_cl zm_246.1.1.cls)).all goodWord = true := by decide +kernel
set_option maxRecDepth 100000 in
theorem zr_246_0 : (zl_246_0.flatMap (zz_wn zp_P zm_246.1.1.cls)).map some = ([] : List Nat).map (fun i => lw_tbl[i]?) := by rfl
set_option maxRecDepth 100000 in
theorem zs_246_0 : (zl_246_0.flatMap (zz_wn zp_P zm_246.1.1.cls)).all zz_isN = true := by decide +kernel
set_option maxRecDepth 100000 in
theorem zb_246_0 : zl_246_0.all (fun r => zz_wb zt_hh zp_P zt_cl zt_tf zt_fd zt_nf zm_246.1.1.cls zm_246.1.1.name r) = true := by decide +kernel
set_option maxRecDepth 100000 in
theorem zd_246_1 : ∀ r ∈ zl_246_1, decode zm_246.1.2.1 r.1 = .ok (r.2.1, r.2.2.1) := by decide +kernel
set_option maxRecDepth 100000 in
theorem zq_246_1 : (zl_246_1.flatMap (zz_wr zt_hh zp_P zt_cl zm_246.1.1.cls)).map some = ([635, 2, 633, 635, 2, 633] : List Nat).map (fun i => lw_tbl[i]?) := by rfl
set_option maxRecDepth 100000 in
theorem zg_246_1 : (zl_246_1.flatMap (zz_wr zt_hh zp_P zt_cl zm_246.1.1.cls)).all goodWord = true := by decide +kernel
set_option maxRecDepth 100000 in
theorem zr_246_1 : (zl_246_1.flatMap (zz_wn zp_P zm_246.1.1.cls)).map some = ([] : List Nat).map (fun i => lw_tbl[i]?) := by rfl
set_option maxRecDepth 100000 in
theorem zs_246_1 : (zl_246_1.flatMap (zz_wn zp_P zm_246.1.1.cls)).all zz_isN = true := by decide +kernel
set_option maxRecDepth 100000 in
theorem zb_246_1 : zl_246_1.all (fun r => zz_wb zt_hh zp_P zt_cl zt_tf zt_fd zt_nf zm_246.1.1.cls zm_246.1.1.name r) = true := by decide +kernel
set_option maxRecDepth 100000 in
theorem zy_246_0 : zl_246_0.all (fun r => zz_tb zt_hh zp_P zm_246 r) = true := by decide +kernel
set_option maxRecDepth 100000 in
theorem zy_246_1 : zl_246_1.all (fun r => zz_tb zt_hh zp_P zm_246 r) = true := by decide +kernel
theorem zw_246 : zz_okW zt_hh zp_P zt_cl zt_tf zt_fd zt_nf zt_T zt_N zm_246 := List.forall_mem_cons.mpr ⟨(zz_w_okL zd_246_0 zb_246_0 (zz_places goodWord zq_246_0 zg_246_0) (zz_places zz_isN zr_246_0 zs_246_0) zy_246_0), List.forall_mem_cons.mpr ⟨(zz_w_okL zd_246_1 zb_246_1 (zz_places goodWord zq_246_1 zg_246_1) (zz_places zz_isN zr_246_1 zs_246_1) zy_246_1), (fun _ h => absurd h List.not_mem_nil)⟩⟩
set_option maxRecDepth 100000 in
theorem zq_246 : [zz_cw zt_hh zm_246, Cond.initialized zm_246.1.1.cls].map some = ([667, 218] : List Nat).map (fun i => lw_tbl[i]?) := by rfl
set_option maxRecDepth 100000 in
theorem zg_246 : [zz_cw zt_hh zm_246, Cond.initialized zm_246.1.1.cls].all goodWord = true := by decide +kernel
set_option maxRecDepth 100000 in
theorem zb_246 : (plainName zm_246.1.1.cls && (decide (zm_246.1.1.cls ≠ "java/lang/invoke/MethodHandle" ∧ zm_246.1.1.cls ≠ "java/lang/invoke/VarHandle") && decide (zm_246.1.2.2.1 ≤ 40))) = true := by decide +kernel
theorem zo_246 : zz_okM zt_hh zp_P zt_cl zt_tf zt_fd zt_nf zt_T zt_N zm_246 := zz_w_okM zw_246 zb_246 (zz_places goodWord zq_246 zg_246)
set_option maxRecDepth 100000 in
theorem zd_247_0 : ∀ r ∈ zl_247_0, decode zm_247.1.2.1 r.1 = .ok (r.2.1, r.2.2.1) := by decide +kernel
set_option maxRecDepth 100000 in
theorem zq_247_0 : (zl_247_0.flatMap (zz_wr zt_hh zp_P zt_cl zm_247.1.1.cls)).map some = ([662, 662, 2593] : List Nat).map (fun i => lw_tbl[i]?) := by rfl
set_option maxRecDepth 100000 in
theorem zg_247_0 : (zl_247_0.flatMap (zz_wr zt_hh zp_P zt_cl zm_247.1.1.cls)).all goodWord = true := by decide +kernel
set_option maxRecDepth 100000 in
theorem zr_247_0 : (zl_247_0.flatMap (zz_wn zp_P zm_247.1.1.cls)).map some = ([] : List Nat).map (fun i => lw_tbl[i]?) := by rfl
set_option maxRecDepth 100000 in
theorem zs_247_0 : (zl_247_0.flatMap (zz_wn zp_P zm_247.1.1.cls)).all zz_isN = true := by decide +kernel
set_option maxRecDepth 100000 in
theorem zb_247_0 : zl_247_0.all (fun r => zz_wb zt_hh zp_P zt_cl zt_tf zt_fd zt_nf zm_247.1.1.cls zm_247.1.1.name r) = true := by decide +kernel
set_option maxRecDepth 100000 in
theorem zy_247_0 : zl_247_0.all (fun r => zz_tb zt_hh zp_P zm_247 r) = true := by decide +kernel
theorem zw_247 : zz_okW zt_hh zp_P zt_cl zt_tf zt_fd zt_nf zt_T zt_N zm_247 := List.forall_mem_cons.mpr ⟨(zz_w_okL zd_247_0 zb_247_0 (zz_places goodWord zq_247_0 zg_247_0) (zz_places zz_isN zr_247_0 zs_247_0) zy_247_0), (fun _ h => absurd h List.not_mem_nil)⟩
set_option maxRecDepth 100000 in
theorem zq_247 : [zz_cw zt_hh zm_247, Cond.initialized zm_247.1.1.cls].map some = ([661, 232] : List Nat).map (fun i => lw_tbl[i]?) := by rfl
set_option maxRecDepth 100000 in
theorem zg_247 : [zz_cw zt_hh zm_247, Cond.initialized zm_247.1.1.cls].all goodWord = true := by decide +kernel
set_option maxRecDepth 100000 in
theorem zb_247 : (plainName zm_247.1.1.cls && (decide (zm_247.1.1.cls ≠ "java/lang/invoke/MethodHandle" ∧ zm_247.1.1.cls ≠ "java/lang/invoke/VarHandle") && decide (zm_247.1.2.2.1 ≤ 40))) = true := by decide +kernel
theorem zo_247 : zz_okM zt_hh zp_P zt_cl zt_tf zt_fd zt_nf zt_T zt_N zm_247 := zz_w_okM zw_247 zb_247 (zz_places goodWord zq_247 zg_247)
set_option maxRecDepth 100000 in
theorem zd_248_0 : ∀ r ∈ zl_248_0, decode zm_248.1.2.1 r.1 = .ok (r.2.1, r.2.2.1) := by decide +kernel
set_option maxRecDepth 100000 in
theorem zq_248_0 : (zl_248_0.flatMap (zz_wr zt_hh zp_P zt_cl zm_248.1.1.cls)).map some = ([662, 662, 794] : List Nat).map (fun i => lw_tbl[i]?) := by rfl
set_option maxRecDepth 100000 in
theorem zg_248_0 : (zl_248_0.flatMap (zz_wr zt_hh zp_P zt_cl zm_248.1.1.cls)).all goodWord = true := by decide +kernel
set_option maxRecDepth 100000 in
theorem zr_248_0 : (zl_248_0.flatMap (zz_wn zp_P zm_248.1.1.cls)).map some = ([] : List Nat).map (fun i => lw_tbl[i]?) := by rfl
set_option maxRecDepth 100000 in
theorem zs_248_0 : (zl_248_0.flatMap (zz_wn zp_P zm_248.1.1.cls)).all zz_isN = true := by decide +kernel
set_option maxRecDepth 100000 in
theorem zb_248_0 : zl_248_0.all (fun r => zz_wb zt_hh zp_P zt_cl zt_tf zt_fd zt_nf zm_248.1.1.cls zm_248.1.1.name r) = true := by decide +kernel
set_option maxRecDepth 100000 in
theorem zy_248_0 : zl_248_0.all (fun r => zz_tb zt_hh zp_P zm_248 r) = true := by decide +kernel
theorem zw_248 : zz_okW zt_hh zp_P zt_cl zt_tf zt_fd zt_nf zt_T zt_N zm_248 := List.forall_mem_cons.mpr ⟨(zz_w_okL zd_248_0 zb_248_0 (zz_places goodWord zq_248_0 zg_248_0) (zz_places zz_isN zr_248_0 zs_248_0) zy_248_0), (fun _ h => absurd h List.not_mem_nil)⟩
set_option maxRecDepth 100000 in
theorem zq_248 : [zz_cw zt_hh zm_248, Cond.initialized zm_248.1.1.cls].map some = ([793, 232] : List Nat).map (fun i => lw_tbl[i]?) := by rfl
set_option maxRecDepth 100000 in
theorem zg_248 : [zz_cw zt_hh zm_248, Cond.initialized zm_248.1.1.cls].all goodWord = true := by decide +kernel
set_option maxRecDepth 100000 in
theorem zb_248 : (plainName zm_248.1.1.cls && (decide (zm_248.1.1.cls ≠ "java/lang/invoke/MethodHandle" ∧ zm_248.1.1.cls ≠ "java/lang/invoke/VarHandle") && decide (zm_248.1.2.2.1 ≤ 40))) = true := by decide +kernel
theorem zo_248 : zz_okM zt_hh zp_P zt_cl zt_tf zt_fd zt_nf zt_T zt_N zm_248 := zz_w_okM zw_248 zb_248 (zz_places goodWord zq_248 zg_248)
set_option maxRecDepth 100000 in
theorem zd_249_0 : ∀ r ∈ zl_249_0, decode zm_249.1.2.1 r.1 = .ok (r.2.1, r.2.2.1) := by decide +kernel
set_option maxRecDepth 100000 in
theorem zq_249_0 : (zl_249_0.flatMap (zz_wr zt_hh zp_P zt_cl zm_249.1.1.cls)).map some = ([2596] : List Nat).map (fun i => lw_tbl[i]?) := by rfl
set_option maxRecDepth 100000 in
theorem zg_249_0 : (zl_249_0.flatMap (zz_wr zt_hh zp_P zt_cl zm_249.1.1.cls)).all goodWord = true := by decide +kernel
set_option maxRecDepth 100000 in
theorem zr_249_0 : (zl_249_0.flatMap (zz_wn zp_P zm_249.1.1.cls)).map some = ([] : List Nat).map (fun i => lw_tbl[i]?) := by rfl
set_option maxRecDepth 100000 in
theorem zs_249_0 : (zl_249_0.flatMap (zz_wn zp_P zm_249.1.1.cls)).all zz_isN = true := by decide +kernel
set_option maxRecDepth 100000 in
theorem zb_249_0 : zl_249_0.all (fun r => zz_wb zt_hh zp_P zt_cl zt_tf zt_fd zt_nf zm_249.1.1.cls zm_249.1.1.name r) = true := by decide +kernel
set_option maxRecDepth 100000 in
theorem zy_249_0 : zl_249_0.all (fun r => zz_tb zt_hh zp_P zm_249 r) = true := by decide +kernel
theorem zw_249 : zz_okW zt_hh zp_P zt_cl zt_tf zt_fd zt_nf zt_T zt_N zm_249 := List.forall_mem_cons.mpr ⟨(zz_w_okL zd_249_0 zb_249_0 (zz_places goodWord zq_249_0 zg_249_0) (zz_places zz_isN zr_249_0 zs_249_0) zy_249_0), (fun _ h => absurd h List.not_mem_nil)⟩
set_option maxRecDepth 100000 in
theorem zq_249 : [zz_cw zt_hh zm_249, Cond.initialized zm_249.1.1.cls].map some = ([956, 232] : List Nat).map (fun i => lw_tbl[i]?) := by rfl
set_option maxRecDepth 100000 in
theorem zg_249 : [zz_cw zt_hh zm_249, Cond.initialized zm_249.1.1.cls].all goodWord = true := by decide +kernel
set_option maxRecDepth 100000 in
theorem zb_249 : (plainName zm_249.1.1.cls && (decide (zm_249.1.1.cls ≠ "java/lang/invoke/MethodHandle" ∧ zm_249.1.1.cls ≠ "java/lang/invoke/VarHandle") && decide (zm_249.1.2.2.1 ≤ 40))) = true := by decide +kernel
theorem zo_249 : zz_okM zt_hh zp_P zt_cl zt_tf zt_fd zt_nf zt_T zt_N zm_249 := zz_w_okM zw_249 zb_249 (zz_places goodWord zq_249 zg_249)
set_option maxRecDepth 100000 in
theorem zd_250_0 : ∀ r ∈ zl_250_0, decode zm_250.1.2.1 r.1 = .ok (r.2.1, r.2.2.1) := by decide +kernel
set_option maxRecDepth 100000 in
theorem zq_250_0 : (zl_250_0.flatMap (zz_wr zt_hh zp_P zt_cl zm_250.1.1.cls)).map some = ([557, 1597, 1598, 1596, 551, 554, 557, 1601, 1602, 1600, 1605, 1606, 1604, 551, 554, 557, 1627, 1628, 1626, 1605, 1606, 1604] : List Nat).map (fun i => lw_tbl[i]?) := by rfl
set_option maxRecDepth 100000 in
theorem zg_250_0 : (zl_250_0.flatMap (zz_wr zt_hh zp_P zt_cl zm_250.1.1.cls)).all goodWord = true := by decide +kernel
set_option maxRecDepth 100000 in
theorem zr_250_0 : (zl_250_0.flatMap (zz_wn zp_P zm_250.1.1.cls)).map some = ([] : List Nat).map (fun i => lw_tbl[i]?) := by rfl
set_option maxRecDepth 100000 in
theorem zs_250_0 : (zl_250_0.flatMap (zz_wn zp_P zm_250.1.1.cls)).all zz_isN = true := by decide +kernel
set_option maxRecDepth 100000 in
theorem zb_250_0 : zl_250_0.all (fun r => zz_wb zt_hh zp_P zt_cl zt_tf zt_fd zt_nf zm_250.1.1.cls zm_250.1.1.name r) = true := by decide +kernel
set_option maxRecDepth 100000 in
theorem zy_250_0 : zl_250_0.all (fun r => zz_tb zt_hh zp_P zm_250 r) = true := by decide +kernel
theorem zw_250 : zz_okW zt_hh zp_P zt_cl zt_tf zt_fd zt_nf zt_T zt_N zm_250 := List.forall_mem_cons.mpr ⟨(zz_w_okL zd_250_0 zb_250_0 (zz_places goodWord zq_250_0 zg_250_0) (zz_places zz_isN zr_250_0 zs_250_0) zy_250_0), (fun _ h => absurd h List.not_mem_nil)⟩
set_option maxRecDepth 100000 in
theorem zq_250 : [zz_cw zt_hh zm_250, Cond.initialized zm_250.1.1.cls].map some = ([1595, 216] : List Nat).map (fun i => lw_tbl[i]?) := by rfl
set_option maxRecDepth 100000 in
theorem zg_250 : [zz_cw zt_hh zm_250, Cond.initialized zm_250.1.1.cls].all goodWord = true := by decide +kernel
set_option maxRecDepth 100000 in
theorem zb_250 : (plainName zm_250.1.1.cls && (decide (zm_250.1.1.cls ≠ "java/lang/invoke/MethodHandle" ∧ zm_250.1.1.cls ≠ "java/lang/invoke/VarHandle") && decide (zm_250.1.2.2.1 ≤ 40))) = true := by decide +kernel
theorem zo_250 : zz_okM zt_hh zp_P zt_cl zt_tf zt_fd zt_nf zt_T zt_N zm_250 := zz_w_okM zw_250 zb_250 (zz_places goodWord zq_250 zg_250)
set_option maxRecDepth 100000 in
theorem zd_251_0 : ∀ r ∈ zl_251_0, decode zm_251.1.2.1 r.1 = .ok (r.2.1, r.2.2.1) := by decide +kernel
set_option maxRecDepth 100000 in
theorem zq_251_0 : (zl_251_0.flatMap (zz_wr zt_hh zp_P zt_cl zm_251.1.1.cls)).map some = ([554, 1072, 1073, 1071, 551, 554, 1084, 1085, 1083] : List Nat).map (fun i => lw_tbl[i]?) := by rfl
set_option maxRecDepth 100000 in
theorem zg_251_0 : (zl_251_0.flatMap (zz_wr zt_hh zp_P zt_cl zm_251.1.1.cls)).all goodWord = true := by decide +kernel
set_option maxRecDepth 100000 in
theorem zr_251_0 : (zl_251_0.flatMap (zz_wn zp_P zm_251.1.1.cls)).map some = ([] : List Nat).map (fun i => lw_tbl[i]?) := by rfl
set_option maxRecDepth 100000 in
theorem zs_251_0 : (zl_251_0.flatMap (zz_wn zp_P zm_251.1.1.cls)).all zz_isN = true := by decide +kernel
set_option maxRecDepth 100000 in
theorem zb_251_0 : zl_251_0.all (fun r => zz_wb zt_hh zp_P zt_cl zt_tf zt_fd zt_nf zm_251.1.1.cls zm_251.1.1.name r) = true := by decide +kernel
set_option maxRecDepth 100000 in
theorem zy_251_0 : zl_251_0.all (fun r => zz_tb zt_hh zp_P zm_251 r) = true := by decide +kernel
theorem zw_251 : zz_okW zt_hh zp_P zt_cl zt_tf zt_fd zt_nf zt_T zt_N zm_251 := List.forall_mem_cons.mpr ⟨(zz_w_okL zd_251_0 zb_251_0 (zz_places goodWord zq_251_0 zg_251_0) (zz_places zz_isN zr_251_0 zs_251_0) zy_251_0), (fun _ h => absurd h List.not_mem_nil)⟩
set_option maxRecDepth 100000 in
theorem zq_251 : [zz_cw zt_hh zm_251, Cond.initialized zm_251.1.1.cls].map some = ([1665, 216] : List Nat).map (fun i => lw_tbl[i]?) := by rfl
set_option maxRecDepth 100000 in
theorem zg_251 : [zz_cw zt_hh zm_251, Cond.initialized zm_251.1.1.cls].all goodWord = true := by decide +kernel
set_option maxRecDepth 100000 in
theorem zb_251 : (plainName zm_251.1.1.cls && (decide (zm_251.1.1.cls ≠ "java/lang/invoke/MethodHandle" ∧ zm_251.1.1.cls ≠ "java/lang/invoke/VarHandle") && decide (zm_251.1.2.2.1 ≤ 40))) = true := by decide +kernel
theorem zo_251 : zz_okM zt_hh zp_P zt_cl zt_tf zt_fd zt_nf zt_T zt_N zm_251 := zz_w_okM zw_251 zb_251 (zz_places goodWord zq_251 zg_251)
set_option maxRecDepth 100000 in
theorem zd_252_0 : ∀ r ∈ zl_252_0, decode zm_252.1.2.1 r.1 = .ok (r.2.1, r.2.2.1) := by decide +kernel
set_option maxRecDepth 100000 in
theorem zq_252_0 : (zl_252_0.flatMap (zz_wr zt_hh zp_P zt_cl zm_252.1.1.cls)).map some = ([552, 552, 552, 552, 553, 553] : List Nat).map (fun i => lw_tbl[i]?) := by rfl
set_option maxRecDepth 100000 in
theorem zg_252_0 : (zl_252_0.flatMap (zz_wr zt_hh zp_P zt_cl zm_252.1.1.cls)).all goodWord = true := by decide +kernel
set_option maxRecDepth 100000 in
theorem zr_252_0 : (zl_252_0.flatMap (zz_wn zp_P zm_252.1.1.cls)).map some = ([] : List Nat).map (fun i => lw_tbl[i]?) := by rfl
set_option maxRecDepth 100000 in
theorem zs_252_0 : (zl_252_0.flatMap (zz_wn zp_P zm_252.1.1.cls)).all zz_isN = true := by decide +kernel
set_option maxRecDepth 100000 in
theorem zb_252_0 : zl_252_0.all (fun r => zz_wb zt_hh zp_P zt_cl zt_tf zt_fd zt_nf zm_252.1.1.cls zm_252.1.1.name r) = true := by decide +kernel
set_option maxRecDepth 100000 in
theorem zy_252_0 : zl_252_0.all (fun r => zz_tb zt_hh zp_P zm_252 r) = true := by decide +kernel
theorem zw_252 : zz_okW zt_hh zp_P zt_cl zt_tf zt_fd zt_nf zt_T zt_N zm_252 := List.forall_mem_cons.mpr ⟨(zz_w_okL zd_252_0 zb_252_0 (zz_places goodWord zq_252_0 zg_252_0) (zz_places zz_isN zr_252_0 zs_252_0) zy_252_0), (fun _ h => absurd h List.not_mem_nil)⟩
set_option maxRecDepth 100000 in
theorem zq_252 : [zz_cw zt_hh zm_252, Cond.initialized zm_252.1.1.cls].map some = ([1724, 216] : List Nat).map (fun i => lw_tbl[i]?) := by rfl
set_option maxRecDepth 100000 in
theorem zg_252 : [zz_cw zt_hh zm_252, Cond.initialized zm_252.1.1.cls].all goodWord = true := by decide +kernel
set_option maxRecDepth 100000 in
theorem zb_252 : (plainName zm_252.1.1.cls && (decide (zm_252.1.1.cls ≠ "java/lang/invoke/MethodHandle" ∧ zm_252.1.1.cls ≠ "java/lang/invoke/VarHandle") && decide (zm_252.1.2.2.1 ≤ 40))) = true := by decide +kernel
theorem zo_252 : zz_okM zt_hh zp_P zt_cl zt_tf zt_fd zt_nf zt_T zt_N zm_252 := zz_w_okM zw_252 zb_252 (zz_places goodWord zq_252 zg_252)
set_option maxRecDepth 100000 in
theorem zd_253_0 : ∀ r ∈ zl_253_0, decode zm_253.1.2.1 r.1 = .ok (r.2.1, r.2.2.1) := by decide +kernel
set_option maxRecDepth 100000 in
theorem zq_253_0 : (zl_253_0.flatMap (zz_wr zt_hh zp_P zt_cl zm_253.1.1.cls)).map some = ([1090] : List Nat).map (fun i => lw_tbl[i]?) := by rfl
set_option maxRecDepth 100000 in
theorem zg_253_0 : (zl_253_0.flatMap (zz_wr zt_hh zp_P zt_cl zm_253.1.1.cls)).all goodWord = true := by decide +kernel
set_option maxRecDepth 100000 in
theorem zr_253_0 : (zl_253_0.flatMap (zz_wn zp_P zm_253.1.1.cls)).map some = ([] : List Nat).map (fun i => lw_tbl[i]?) := by rfl
set_option maxRecDepth 100000 in
theorem zs_253_0 : (zl_253_0.flatMap (zz_wn zp_P zm_253.1.1.cls)).all zz_isN = true := by decide +kernel
set_option maxRecDepth 100000 in
theorem zb_253_0 : zl_253_0.all (fun r => zz_wb zt_hh zp_P zt_cl zt_tf zt_fd zt_nf zm_253.1.1.cls zm_253.1.1.name r) = true := by decide +kernel
set_option maxRecDepth 100000 in
theorem zy_253_0 : zl_253_0.all (fun r => zz_tb zt_hh zp_P zm_253 r) = true := by decide +kernel
theorem zw_253 : zz_okW zt_hh zp_P zt_cl zt_tf zt_fd zt_nf zt_T zt_N zm_253 := List.forall_mem_cons.mpr ⟨(zz_w_okL zd_253_0 zb_253_0 (zz_places goodWord zq_253_0 zg_253_0) (zz_places zz_isN zr_253_0 zs_253_0) zy_253_0), (fun _ h => absurd h List.not_mem_nil)⟩
set_option maxRecDepth 100000 in
theorem zq_253 : [zz_cw zt_hh zm_253, Cond.initialized zm_253.1.1.cls].map some = ([1089, 216] : List Nat).map (fun i => lw_tbl[i]?) := by rfl
set_option maxRecDepth 100000 in
theorem zg_253 : [zz_cw zt_hh zm_253, Cond.initialized zm_253.1.1.cls].all goodWord = true := by decide +kernel
set_option maxRecDepth 100000 in
theorem zb_253 : (plainName zm_253.1.1.cls && (decide (zm_253.1.1.cls ≠ "java/lang/invoke/MethodHandle" ∧ zm_253.1.1.cls ≠ "java/lang/invoke/VarHandle") && decide (zm_253.1.2.2.1 ≤ 40))) = true := by decide +kernel
theorem zo_253 : zz_okM zt_hh zp_P zt_cl zt_tf zt_fd zt_nf zt_T zt_N zm_253 := zz_w_okM zw_253 zb_253 (zz_places goodWord zq_253 zg_253)
set_option maxRecDepth 100000 in
theorem zd_254_0 : ∀ r ∈ zl_254_0, decode zm_254.1.2.1 r.1 = .ok (r.2.1, r.2.2.1) := by decide +kernel
set_option maxRecDepth 100000 in
theorem zq_254_0 : (zl_254_0.flatMap (zz_wr zt_hh zp_P zt_cl zm_254.1.1.cls)).map some = ([1119] : List Nat).map (fun i => lw_tbl[i]?) := by rfl
set_option maxRecDepth 100000 in
theorem zg_254_0 : (zl_254_0.flatMap (zz_wr zt_hh zp_P zt_cl zm_254.1.1.cls)).all goodWord = true := by decide +kernel
set_option maxRecDepth 100000 in
theorem zr_254_0 : (zl_254_0.flatMap (zz_wn zp_P zm_254.1.1.cls)).map some = ([] : List Nat).map (fun i => lw_tbl[i]?) := by rfl
set_option maxRecDepth 100000 in
theorem zs_254_0 : (zl_254_0.flatMap (zz_wn zp_P zm_254.1.1.cls)).all zz_isN = true := by decide +kernel
set_option maxRecDepth 100000 in
theorem zb_254_0 : zl_254_0.all (fun r => zz_wb zt_hh zp_P zt_cl zt_tf zt_fd zt_nf zm_254.1.1.cls zm_254.1.1.name r) = true := by decide +kernel
set_option maxRecDepth 100000 in
theorem zy_254_0 : zl_254_0.all (fun r => zz_tb zt_hh zp_P zm_254 r) = true := by decide +kernel
theorem zw_254 : zz_okW zt_hh zp_P zt_cl zt_tf zt_fd zt_nf zt_T zt_N zm_254 := List.forall_mem_cons.mpr ⟨(zz_w_okL zd_254_0 zb_254_0 (zz_places goodWord zq_254_0 zg_254_0) (zz_places zz_isN zr_254_0 zs_254_0) zy_254_0), (fun _ h => absurd h List.not_mem_nil)⟩
set_option maxRecDepth 100000 in
theorem zq_254 : [zz_cw zt_hh zm_254, Cond.initialized zm_254.1.1.cls].map some = ([1118, 216] : List Nat).map (fun i => lw_tbl[i]?) := by rfl
set_option maxRecDepth 100000 in
theorem zg_254 : [zz_cw zt_hh zm_254, Cond.initialized zm_254.1.1.cls].all goodWord = true := by decide +kernel
set_option maxRecDepth 100000 in
theorem zb_254 : (plainName zm_254.1.1.cls && (decide (zm_254.1.1.cls ≠ "java/lang/invoke/MethodHandle" ∧ zm_254.1.1.cls ≠ "java/lang/invoke/VarHandle") && decide (zm_254.1.2.2.1 ≤ 40))) = true := by decide +kernel
theorem zo_254 : zz_okM zt_hh zp_P zt_cl zt_tf zt_fd zt_nf zt_T zt_N zm_254 := zz_w_okM zw_254 zb_254 (zz_places goodWord zq_254 zg_254)
set_option maxRecDepth 100000 in
theorem zd_255_0 : ∀ r ∈ zl_255_0, decode zm_255.1.2.1 r.1 = .ok (r.2.1, r.2.2.1) := by decide +kernel
set_option maxRecDepth 100000 in
theorem zq_255_0 : (zl_255_0.flatMap (zz_wr zt_hh zp_P zt_cl zm_255.1.1.cls)).map some = ([] : List Nat).map (fun i => lw_tbl[i]?) := by rfl
set_option maxRecDepth 100000 in
theorem zg_255_0 : (zl_255_0.flatMap (zz_wr zt_hh zp_P zt_cl zm_255.1.1.cls)).all goodWord = true := by decide +kernel
set_option maxRecDepth 100000 in
theorem zr_255_0 : (zl_255_0.flatMap (zz_wn zp_P zm_255.1.1.cls)).map some = ([] : List Nat).map (fun i => lw_tbl[i]?) := by rfl
set_option maxRecDepth 100000 in
theorem zs_255_0 : (zl_255_0.flatMap (zz_wn zp_P zm_255.1.1.cls)).all zz_isN = true := by decide +kernel
set_option maxRecDepth 100000 in
theorem zb_255_0 : zl_255_0.all (fun r => zz_wb zt_hh zp_P zt_cl zt_tf zt_fd zt_nf zm_255.1.1.cls zm_255.1.1.name r) = true := by decide +kernel
set_option maxRecDepth 100000 in
theorem zy_255_0 : zl_255_0.all (fun r => zz_tb zt_hh zp_P zm_255 r) = true := by decide +kernel
theorem zw_255 : zz_okW zt_hh zp_P zt_cl zt_tf zt_fd zt_nf zt_T zt_N zm_255 := List.forall_mem_cons.mpr ⟨(zz_w_okL zd_255_0 zb_255_0 (zz_places goodWord zq_255_0 zg_255_0) (zz_places zz_isN zr_255_0 zs_255_0) zy_255_0), (fun _ h => absurd h List.not_mem_nil)⟩
set_option maxRecDepth 100000 in
theorem zq_255 : [zz_cw zt_hh zm_255, Cond.initialized zm_255.1.1.cls].map some = ([1211, 216] : List Nat).map (fun i => lw_tbl[i]?) := by rfl
set_option maxRecDepth 100000 in
theorem zg_255 : [zz_cw zt_hh zm_255, Cond.initialized zm_255.1.1.cls].all goodWord = true := by decide +kernel
set_option maxRecDepth 100000 in
theorem zb_255 : (plainName zm_255.1.1.cls && (decide (zm_255.1.1.cls ≠ "java/lang/invoke/MethodHandle" ∧ zm_255.1.1.cls ≠ "java/lang/invoke/VarHandle") && decide (zm_255.1.2.2.1 ≤ 40))) = true := by decide +kernel
theorem zo_255 : zz_okM zt_hh zp_P zt_cl zt_tf zt_fd zt_nf zt_T zt_N zm_255 := zz_w_okM zw_255 zb_255 (zz_places goodWord zq_255 zg_255)
set_option maxRecDepth 100000 in
theorem zd_256_0 : ∀ r ∈ zl_256_0, decode zm_256.1.2.1 r.1 = .ok (r.2.1, r.2.2.1) := by decide +kernel
set_option maxRecDepth 100000 in
theorem zq_256_0 : (zl_256_0.flatMap (zz_wr zt_hh zp_P zt_cl zm_256.1.1.cls)).map some = ([] : List Nat).map (fun i => lw_tbl[i]?) := by rfl
set_option maxRecDepth 100000 in
theorem zg_256_0 : (zl_256_0.flatMap (zz_wr zt_hh zp_P zt_cl zm_256.1.1.cls)).all goodWord = true := by decide +kernel
set_option maxRecDepth 100000 in
theorem zr_256_0 : (zl_256_0.flatMap (zz_wn zp_P zm_256.1.1.cls)).map some = ([] : List Nat).map (fun i => lw_tbl[i]?) := by rfl
set_option maxRecDepth 100000 in
theorem zs_256_0 : (zl_256_0.flatMap (zz_wn zp_P zm_256.1.1.cls)).all zz_isN = true := by decide +kernel
set_option maxRecDepth 100000 in
theorem zb_256_0 : zl_256_0.all (fun r => zz_wb zt_hh zp_P zt_cl zt_tf zt_fd zt_nf zm_256.1.1.cls zm_256.1.1.name r) = true := by decide +kernel
set_option maxRecDepth 100000 in
theorem zy_256_0 : zl_256_0.all (fun r => zz_tb zt_hh zp_P zm_256 r) = true := by decide +kernel
theorem zw_256 : zz_okW zt_hh zp_P zt_cl zt_tf zt_fd zt_nf zt_T zt_N zm_256 := List.forall_mem_cons.mpr ⟨(zz_w_okL zd_256_0 zb_256_0 (zz_places goodWord zq_256_0 zg_256_0) (zz_places zz_isN zr_256_0 zs_256_0) zy_256_0), (fun _ h => absurd h List.not_mem_nil)⟩
set_option maxRecDepth 100000 in
theorem zq_256 : [zz_cw zt_hh zm_256, Cond.initialized zm_256.1.1.cls].map some = ([1229, 216] : List Nat).map (fun i => lw_tbl[i]?) := by rfl
set_option maxRecDepth 100000 in
theorem zg_256 : [zz_cw zt_hh zm_256, Cond.initialized zm_256.1.1.cls].all goodWord = true := by decide +kernel
set_option maxRecDepth 100000 in
theorem zb_256 : (plainName zm_256.1.1.cls && (decide (zm_256.1.1.cls ≠ "java/lang/invoke/MethodHandle" ∧ zm_256.1.1.cls ≠ "java/lang/invoke/VarHandle") && decide (zm_256.1.2.2.1 ≤ 40))) = true := by decide +kernel
theorem zo_256 : zz_okM zt_hh zp_P zt_cl zt_tf zt_fd zt_nf zt_T zt_N zm_256 := zz_w_okM zw_256 zb_256 (zz_places goodWord zq_256 zg_256)
set_option maxRecDepth 100000 in
theorem zd_257_0 : ∀ r ∈ zl_257_0, decode zm_257.1.2.1 r.1 = .ok (r.2.1, r.2.2.1) := by decide +kernel
set_option maxRecDepth 100000 in
theorem zq_257_0 : (zl_257_0.flatMap (zz_wr zt_hh zp_P zt_cl zm_257.1.1.cls)).map some = ([] : List Nat).map (fun i => lw_tbl[i]?) := by rfl
set_option maxRecDepth 100000 in
theorem zg_257_0 : (zl_257_0.flatMap (zz_wr zt_hh zp_P zt_cl zm_257.1.1.cls)).all goodWord = true := by decide +kernel
set_option maxRecDepth 100000 in
theorem zr_257_0 : (zl_257_0.flatMap (zz_wn zp_P zm_257.1.1.cls)).map some = ([] : List Nat).map (fun i => lw_tbl[i]?) := by rfl
set_option maxRecDepth 100000 in
theorem zs_257_0 : (zl_257_0.flatMap (zz_wn zp_P zm_257.1.1.cls)).all zz_isN = true := by decide +kernel
set_option maxRecDepth 100000 in
theorem zb_257_0 : zl_257_0.all (fun r => zz_wb zt_hh zp_P zt_cl zt_tf zt_fd zt_nf zm_257.1.1.cls zm_257.1.1.name r) = true := by decide +kernel
set_option maxRecDepth 100000 in
theorem zy_257_0 : zl_257_0.all (fun r => zz_tb zt_hh zp_P zm_257 r) = true := by decide +kernel
theorem zw_257 : zz_okW zt_hh zp_P zt_cl zt_tf zt_fd zt_nf zt_T zt_N zm_257 := List.forall_mem_cons.mpr ⟨(zz_w_okL zd_257_0 zb_257_0 (zz_places goodWord zq_257_0 zg_257_0) (zz_places zz_isN zr_257_0 zs_257_0) zy_257_0), (fun _ h => absurd h List.not_mem_nil)⟩
set_option maxRecDepth 100000 in
theorem zq_257 : [zz_cw zt_hh zm_257, Cond.initialized zm_257.1.1.cls].map some = ([2093, 227] : List Nat).map (fun i => lw_tbl[i]?) := by rfl
set_option maxRecDepth 100000 in
theorem zg_257 : [zz_cw zt_hh zm_257, Cond.initialized zm_257.1.1.cls].all goodWord = true := by decide +kernel
set_option maxRecDepth 100000 in
theorem zb_257 : (plainName zm_257.1.1.cls && (decide (zm_257.1.1.cls ≠ "java/lang/invoke/MethodHandle" ∧ zm_257.1.1.cls ≠ "java/lang/invoke/VarHandle") && decide (zm_257.1.2.2.1 ≤ 40))) = true := by decide +kernel
theorem zo_257 : zz_okM zt_hh zp_P zt_cl zt_tf zt_fd zt_nf zt_T zt_N zm_257 := zz_w_okM zw_257 zb_257 (zz_places goodWord zq_257 zg_257)
set_option maxRecDepth 100000 in
theorem zd_258_0 : ∀ r ∈ zl_258_0, decode zm_258.1.2.1 r.1 = .ok (r.2.1, r.2.2.1) := by decide +kernel
set_option maxRecDepth 100000 in
theorem zq_258_0 : (zl_258_0.flatMap (zz_wr zt_hh zp_P zt_cl zm_258.1.1.cls)).map some = ([] : List Nat).map (fun i => lw_tbl[i]?) := by rfl
set_option maxRecDepth 100000 in
theorem zg_258_0 : (zl_258_0.flatMap (zz_wr zt_hh zp_P zt_cl zm_258.1.1.cls)).all goodWord = true := by decide +kernel
set_option maxRecDepth 100000 in
theorem zr_258_0 : (zl_258_0.flatMap (zz_wn zp_P zm_258.1.1.cls)).map some = ([] : List Nat).map (fun i => lw_tbl[i]?) := by rfl
set_option maxRecDepth 100000 in
theorem zs_258_0 : (zl_258_0.flatMap (zz_wn zp_P zm_258.1.1.cls)).all zz_isN = true := by decide +kernel
set_option maxRecDepth 100000 in
theorem zb_258_0 : zl_258_0.all (fun r => zz_wb zt_hh zp_P zt_cl zt_tf zt_fd zt_nf zm_258.1.1.cls zm_258.1.1.name r) = true := by decide +kernel
set_option maxRecDepth 100000 in
theorem zy_258_0 : zl_258_0.all (fun r => zz_tb zt_hh zp_P zm_258 r) = true := by decide +kernel
theorem zw_258 : zz_okW zt_hh zp_P zt_cl zt_tf zt_fd zt_nf zt_T zt_N zm_258 := List.forall_mem_cons.mpr ⟨(zz_w_okL zd_258_0 zb_258_0 (zz_places goodWord zq_258_0 zg_258_0) (zz_places zz_isN zr_258_0 zs_258_0) zy_258_0), (fun _ h => absurd h List.not_mem_nil)⟩
set_option maxRecDepth 100000 in
theorem zq_258 : [zz_cw zt_hh zm_258, Cond.initialized zm_258.1.1.cls].map some = ([2098, 227] : List Nat).map (fun i => lw_tbl[i]?) := by rfl
set_option maxRecDepth 100000 in
theorem zg_258 : [zz_cw zt_hh zm_258, Cond.initialized zm_258.1.1.cls].all goodWord = true := by decide +kernel
set_option maxRecDepth 100000 in
theorem zb_258 : (plainName zm_258.1.1.cls && (decide (zm_258.1.1.cls ≠ "java/lang/invoke/MethodHandle" ∧ zm_258.1.1.cls ≠ "java/lang/invoke/VarHandle") && decide (zm_258.1.2.2.1 ≤ 40))) = true := by decide +kernel
theorem zo_258 : zz_okM zt_hh zp_P zt_cl zt_tf zt_fd zt_nf zt_T zt_N zm_258 := zz_w_okM zw_258 zb_258 (zz_places goodWord zq_258 zg_258)
set_option maxRecDepth 100000 in
theorem zd_259_0 : ∀ r ∈ zl_259_0, decode zm_259.1.2.1 r.1 = .ok (r.2.1, r.2.2.1) := by decide +kernel
set_option maxRecDepth 100000 in
theorem zq_259_0 : (zl_259_0.flatMap (zz_wr zt_hh zp_P zt_cl zm_259.1.1.cls)).map some = ([1797, 1798, 2089, 117, 2087, 2106, 1755] : List Nat).map (fun i => lw_tbl[i]?) := by rfl
set_option maxRecDepth 100000 in
theorem zg_259_0 : (zl_259_0.flatMap (zz_wr zt_hh zp_P zt_cl zm_259.1.1.cls)).all goodWord = true := by decide +kernel
set_option maxRecDepth 100000 in
theorem zr_259_0 : (zl_259_0.flatMap (zz_wn zp_P zm_259.1.1.cls)).map some = ([] : List Nat).map (fun i => lw_tbl[i]?) := by rfl
set_option maxRecDepth 100000 in
theorem zs_259_0 : (zl_259_0.flatMap (zz_wn zp_P zm_259.1.1.cls)).all zz_isN = true := by decide +kernel
set_option maxRecDepth 100000 in
theorem zb_259_0 : zl_259_0.all (fun r => zz_wb zt_hh zp_P zt_cl zt_tf zt_fd zt_nf zm_259.1.1.cls zm_259.1.1.name r) = true := by decide +kernel
set_option maxRecDepth 100000 in
theorem zd_259_1 : ∀ r ∈ zl_259_1, decode zm_259.1.2.1 r.1 = .ok (r.2.1, r.2.2.1) := by decide +kernel
set_option maxRecDepth 100000 in
theorem zq_259_1 : (zl_259_1.flatMap (zz_wr zt_hh zp_P zt_cl zm_259.1.1.cls)).map some = ([2107, 2108, 1799, 1798] : List Nat).map (fun i => lw_tbl[i]?) := by rfl
set_option maxRecDepth 100000 in
theorem zg_259_1 : (zl_259_1.flatMap (zz_wr zt_hh zp_P zt_cl zm_259.1.1.cls)).all goodWord = true := by decide +kernel
set_option maxRecDepth 100000 in
theorem zr_259_1 : (zl_259_1.flatMap (zz_wn zp_P zm_259.1.1.cls)).map some = ([] : List Nat).map (fun i => lw_tbl[i]?) := by rfl
set_option maxRecDepth 100000 in
theorem zs_259_1 : (zl_259_1.flatMap (zz_wn zp_P zm_259.1.1.cls)).all zz_isN = true := by decide +kernel
set_option maxRecDepth 100000 in
theorem zb_259_1 : zl_259_1.all (fun r => zz_wb zt_hh zp_P zt_cl zt_tf zt_fd zt_nf zm_259.1.1.cls zm_259.1.1.name r) = true := by decide +kernel
set_option maxRecDepth 100000 in
theorem zd_259_2 : ∀ r ∈ zl_259_2, decode zm_259.1.2.1 r.1 = .ok (r.2.1, r.2.2.1) := by decide +kernel
set_option maxRecDepth 100000 in
theorem zq_259_2 : (zl_259_2.flatMap (zz_wr zt_hh zp_P zt_cl zm_259.1.1.cls)).map some = ([1799] : List Nat).map (fun i => lw_tbl[i]?) := by rfl
set_option maxRecDepth 100000 in
theorem zg_259_2 : (zl_259_2.flatMap (zz_wr zt_hh zp_P zt_cl zm_259.1.1.cls)).all goodWord = true := by decide +kernel
set_option maxRecDepth 100000 in
theorem zr_259_2 : (zl_259_2.flatMap (zz_wn zp_P zm_259.1.1.cls)).map some = ([] : List Nat).map (fun i => lw_tbl[i]?) := by rfl
set_option maxRecDepth 100000 in
theorem zs_259_2 : (zl_259_2.flatMap (zz_wn zp_P zm_259.1.1.cls)).all zz_isN = true := by decide +kernel
set_option maxRecDepth 100000 in
theorem zb_259_2 : zl_259_2.all (fun r => zz_wb zt_hh zp_P zt_cl zt_tf zt_fd zt_nf zm_259.1.1.cls zm_259.1.1.name r) = true := by decide +kernel
set_option maxRecDepth 100000 in
theorem zd_259_3 : ∀ r ∈ zl_259_3, decode zm_259.1.2.1 r.1 = .ok (r.2.1, r.2.2.1) := by decide +kernel
set_option maxRecDepth 100000 in
theorem zq_259_3 : (zl_259_3.flatMap (zz_wr zt_hh zp_P zt_cl zm_259.1.1.cls)).map some = ([1797, 1798] : List Nat).map (fun i => lw_tbl[i]?) := by rfl
set_option maxRecDepth 100000 in
theorem zg_259_3 : (zl_259_3.flatMap (zz_wr zt_hh zp_P zt_cl zm_259.1.1.cls)).all goodWord = true := by decide +kernel
set_option maxRecDepth 100000 in
theorem zr_259_3 : (zl_259_3.flatMap (zz_wn zp_P zm_259.1.1.cls)).map some = ([] : List Nat).map (fun i => lw_tbl[i]?) := by rfl
set_option maxRecDepth 100000 in
theorem zs_259_3 : (zl_259_3.flatMap (zz_wn zp_P zm_259.1.1.cls)).all zz_isN = true := by decide +kernel
set_option maxRecDepth 100000 in
theorem zb_259_3 : zl_259_3.all (fun r => zz_wb zt_hh zp_P zt_cl zt_tf zt_fd zt_nf zm_259.1.1.cls zm_259.1.1.name r) = true := by decide +kernel
set_option maxRecDepth 100000 in
theorem zy_259_0 : zl_259_0.all (fun r => zz_tb zt_hh zp_P zm_259 r) = true := by decide +kernel
set_option maxRecDepth 100000 in
theorem zy_259_1 : zl_259_1.all (fun r => zz_tb zt_hh zp_P zm_259 r) = true := by decide +kernel
set_option maxRecDepth 100000 in
theorem zy_259_2 : zl_259_2.all (fun r => zz_tb zt_hh zp_P zm_259 r) = true := by decide +kernel
set_option maxRecDepth 100000 in
theorem zy_259_3 : zl_259_3.all (fun r => zz_tb zt_hh zp_P zm_259 r) = true := by decide +kernel
theorem zw_259 : zz_okW zt_hh zp_P zt_cl zt_tf zt_fd zt_nf zt_T zt_N zm_259 := List.forall_mem_cons.mpr ⟨(zz_w_okL zd_259_0 zb_259_0 (zz_places goodWord zq_259_0 zg_259_0) (zz_places zz_isN zr_259_0 zs_259_0) zy_259_0), List.forall_mem_cons.mpr ⟨(zz_w_okL zd_259_1 zb_259_1 (zz_places goodWord zq_259_1 zg_259_1) (zz_places zz_isN zr_259_1 zs_259_1) zy_259_1), List.forall_mem_cons.mpr ⟨(zz_w_okL zd_259_2 zb_259_2 (zz_places goodWord zq_259_2 zg_259_2) (zz_places zz_isN zr_259_2 zs_259_2) zy_259_2), List.forall_mem_cons.mpr ⟨(zz_w_okL zd_259_3 zb_259_3 (zz_places goodWord zq_259_3 zg_259_3) (zz_places zz_isN zr_259_3 zs_259_3) zy_259_3), (fun _ h => absurd h List.not_mem_nil)⟩⟩⟩⟩
set_option maxRecDepth 100000 in
theorem zq_259 : [zz_cw zt_hh zm_259, Cond.initialized zm_259.1.1.cls].map some = ([2105, 227] : List Nat).map (fun i => lw_tbl[i]?) := by rfl
set_option maxRecDepth 100000 in
theorem zg_259 : [zz_cw zt_hh zm_259, Cond.initialized zm_259.1.1.cls].all goodWord = true := by decide +kernel
set_option maxRecDepth 100000 in
theorem zb_259 : (plainName zm_259.1.1.cls && (decide (zm_259.1.1.cls ≠ "java/lang/invoke/MethodHandle" ∧ zm_259.1.1.cls ≠ "java/lang/invoke/VarHandle") && decide (zm_259.1.2.2.1 ≤ 40))) = true := by decide +kernel
theorem zo_259 : zz_okM zt_hh zp_P zt_cl zt_tf zt_fd zt_nf zt_T zt_N zm_259 := zz_w_okM zw_259 zb_259 (zz_places goodWord zq_259 zg_259)
set_option maxRecDepth 100000 in
theorem zd_260_0 : ∀ r ∈ zl_260_0, decode zm_260.1.2.1 r.1 = .ok (r.2.1, r.2.2.1) := by decide +kernel
set_option maxRecDepth 100000 in
theorem zq_260_0 : (zl_260_0.flatMap (zz_wr zt_hh zp_P zt_cl zm_260.1.1.cls)).map some = ([1800, 2081, 115, 2079] : List Nat).map (fun i => lw_tbl[i]?) := by rfl
set_option maxRecDepth 100000 in
theorem zg_260_0 : (zl_260_0.flatMap (zz_wr zt_hh zp_P zt_cl zm_260.1.1.cls)).all goodWord = true := by decide +kernel
set_option maxRecDepth 100000 in
theorem zr_260_0 : (zl_260_0.flatMap (zz_wn zp_P zm_260.1.1.cls)).map some = ([] : List Nat).map (fun i => lw_tbl[i]?) := by rfl
set_option maxRecDepth 100000 in
theorem zs_260_0 : (zl_260_0.flatMap (zz_wn zp_P zm_260.1.1.cls)).all zz_isN = true := by decide +kernel
set_option maxRecDepth 100000 in
theorem zb_260_0 : zl_260_0.all (fun r => zz_wb zt_hh zp_P zt_cl zt_tf zt_fd zt_nf zm_260.1.1.cls zm_260.1.1.name r) = true := by decide +kernel
set_option maxRecDepth 100000 in
theorem zy_260_0 : zl_260_0.all (fun r => zz_tb zt_hh zp_P zm_260 r) = true := by decide +kernel
theorem zw_260 : zz_okW zt_hh zp_P zt_cl zt_tf zt_fd zt_nf zt_T zt_N zm_260 := List.forall_mem_cons.mpr ⟨(zz_w_okL zd_260_0 zb_260_0 (zz_places goodWord zq_260_0 zg_260_0) (zz_places zz_isN zr_260_0 zs_260_0) zy_260_0), (fun _ h => absurd h List.not_mem_nil)⟩
set_option maxRecDepth 100000 in
theorem zq_260 : [zz_cw zt_hh zm_260, Cond.initialized zm_260.1.1.cls].map some = ([2124, 227] : List Nat).map (fun i => lw_tbl[i]?) := by rfl
set_option maxRecDepth 100000 in
theorem zg_260 : [zz_cw zt_hh zm_260, Cond.initialized zm_260.1.1.cls].all goodWord = true := by decide +kernel
set_option maxRecDepth 100000 in
theorem zb_260 : (plainName zm_260.1.1.cls && (decide (zm_260.1.1.cls ≠ "java/lang/invoke/MethodHandle" ∧ zm_260.1.1.cls ≠ "java/lang/invoke/VarHandle") && decide (zm_260.1.2.2.1 ≤ 40))) = true := by decide +kernel
theorem zo_260 : zz_okM zt_hh zp_P zt_cl zt_tf zt_fd zt_nf zt_T zt_N zm_260 := zz_w_okM zw_260 zb_260 (zz_places goodWord zq_260 zg_260)
set_option maxRecDepth 100000 in
theorem zd_261_0 : ∀ r ∈ zl_261_0, decode zm_261.1.2.1 r.1 = .ok (r.2.1, r.2.2.1) := by decide +kernel
set_option maxRecDepth 100000 in
theorem zq_261_0 : (zl_261_0.flatMap (zz_wr zt_hh zp_P zt_cl zm_261.1.1.cls)).map some = ([1801, 1801, 1802] : List Nat).map (fun i => lw_tbl[i]?) := by rfl
set_option maxRecDepth 100000 in
theorem zg_261_0 : (zl_261_0.flatMap (zz_wr zt_hh zp_P zt_cl zm_261.1.1.cls)).all goodWord = true := by decide +kernel
set_option maxRecDepth 100000 in
theorem zr_261_0 : (zl_261_0.flatMap (zz_wn zp_P zm_261.1.1.cls)).map some = ([] : List Nat).map (fun i => lw_tbl[i]?) := by rfl
set_option maxRecDepth 100000 in
theorem zs_261_0 : (zl_261_0.flatMap (zz_wn zp_P zm_261.1.1.cls)).all zz_isN = true := by decide +kernel
set_option maxRecDepth 100000 in
theorem zb_261_0 : zl_261_0.all (fun r => zz_wb zt_hh zp_P zt_cl zt_tf zt_fd zt_nf zm_261.1.1.cls zm_261.1.1.name r) = true := by decide +kernel
set_option maxRecDepth 100000 in
theorem zy_261_0 : zl_261_0.all (fun r => zz_tb zt_hh zp_P zm_261 r) = true := by decide +kernel
theorem zw_261 : zz_okW zt_hh zp_P zt_cl zt_tf zt_fd zt_nf zt_T zt_N zm_261 := List.forall_mem_cons.mpr ⟨(zz_w_okL zd_261_0 zb_261_0 (zz_places goodWord zq_261_0 zg_261_0) (zz_places zz_isN zr_261_0 zs_261_0) zy_261_0), (fun _ h => absurd h List.not_mem_nil)⟩
set_option maxRecDepth 100000 in
theorem zq_261 : [zz_cw zt_hh zm_261, Cond.initialized zm_261.1.1.cls].map some = ([2078, 227] : List Nat).map (fun i => lw_tbl[i]?) := by rfl
set_option maxRecDepth 100000 in
theorem zg_261 : [zz_cw zt_hh zm_261, Cond.initialized zm_261.1.1.cls].all goodWord = true := by decide +kernel
set_option maxRecDepth 100000 in
theorem zb_261 : (plainName zm_261.1.1.cls && (decide (zm_261.1.1.cls ≠ "java/lang/invoke/MethodHandle" ∧ zm_261.1.1.cls ≠ "java/lang/invoke/VarHandle") && decide (zm_261.1.2.2.1 ≤ 40))) = true := by decide +kernel
theorem zo_261 : zz_okM zt_hh zp_P zt_cl zt_tf zt_fd zt_nf zt_T zt_N zm_261 := zz_w_okM zw_261 zb_261 (zz_places goodWord zq_261 zg_261)
set_option maxRecDepth 100000 in
theorem zd_262_0 : ∀ r ∈ zl_262_0, decode zm_262.1.2.1 r.1 = .ok (r.2.1, r.2.2.1) := by decide +kernel
set_option maxRecDepth 100000 in
theorem zq_262_0 : (zl_262_0.flatMap (zz_wr zt_hh zp_P zt_cl zm_262.1.1.cls)).map some = ([1797, 1798, 2077, 114, 2075] : List Nat).map (fun i => lw_tbl[i]?) := by rfl
set_option maxRecDepth 100000 in
theorem zg_262_0 : (zl_262_0.flatMap (zz_wr zt_hh zp_P zt_cl zm_262.1.1.cls)).all goodWord = true := by decide +kernel
set_option maxRecDepth 100000 in
theorem zr_262_0 : (zl_262_0.flatMap (zz_wn zp_P zm_262.1.1.cls)).map some = ([] : List Nat).map (fun i => lw_tbl[i]?) := by rfl
set_option maxRecDepth 100000 in
theorem zs_262_0 : (zl_262_0.flatMap (zz_wn zp_P zm_262.1.1.cls)).all zz_isN = true := by decide +kernel
set_option maxRecDepth 100000 in
theorem zb_262_0 : zl_262_0.all (fun r => zz_wb zt_hh zp_P zt_cl zt_tf zt_fd zt_nf zm_262.1.1.cls zm_262.1.1.name r) = true := by decide +kernel
set_option maxRecDepth 100000 in
theorem zy_262_0 : zl_262_0.all (fun r => zz_tb zt_hh zp_P zm_262 r) = true := by decide +kernel
theorem zw_262 : zz_okW zt_hh zp_P zt_cl zt_tf zt_fd zt_nf zt_T zt_N zm_262 := List.forall_mem_cons.mpr ⟨(zz_w_okL zd_262_0 zb_262_0 (zz_places goodWord zq_262_0 zg_262_0) (zz_places zz_isN zr_262_0 zs_262_0) zy_262_0), (fun _ h => absurd h List.not_mem_nil)⟩
set_option maxRecDepth 100000 in
theorem zq_262 : [zz_cw zt_hh zm_262, Cond.initialized zm_262.1.1.cls].map some = ([2128, 227] : List Nat).map (fun i => lw_tbl[i]?) := by rfl
set_option maxRecDepth 100000 in
theorem zg_262 : [zz_cw zt_hh zm_262, Cond.initialized zm_262.1.1.cls].all goodWord = true := by decide +kernel
set_option maxRecDepth 100000 in
theorem zb_262 : (plainName zm_262.1.1.cls && (decide (zm_262.1.1.cls ≠ "java/lang/invoke/MethodHandle" ∧ zm_262.1.1.cls ≠ "java/lang/invoke/VarHandle") && decide (zm_262.1.2.2.1 ≤ 40))) = true := by decide +kernel
theorem zo_262 : zz_okM zt_hh zp_P zt_cl zt_tf zt_fd zt_nf zt_T zt_N zm_262 := zz_w_okM zw_262 zb_262 (zz_places goodWord zq_262 zg_262)
set_option maxRecDepth 100000 in
theorem zd_263_0 : ∀ r ∈ zl_263_0, decode zm_263.1.2.1 r.1 = .ok (r.2.1, r.2.2.1) := by decide +kernel
set_option maxRecDepth 100000 in
theorem zq_263_0 : (zl_263_0.flatMap (zz_wr zt_hh zp_P zt_cl zm_263.1.1.cls)).map some = ([1797, 1799] : List Nat).map (fun i => lw_tbl[i]?) := by rfl
set_option maxRecDepth 100000 in
theorem zg_263_0 : (zl_263_0.flatMap (zz_wr zt_hh zp_P zt_cl zm_263.1.1.cls)).all goodWord = true := by decide +kernel
set_option maxRecDepth 100000 in
theorem zr_263_0 : (zl_263_0.flatMap (zz_wn zp_P zm_263.1.1.cls)).map some = ([] : List Nat).map (fun i => lw_tbl[i]?) := by rfl
set_option maxRecDepth 100000 in
theorem zs_263_0 : (zl_263_0.flatMap (zz_wn zp_P zm_263.1.1.cls)).all zz_isN = true := by decide +kernel
set_option maxRecDepth 100000 in
theorem zb_263_0 : zl_263_0.all (fun r => zz_wb zt_hh zp_P zt_cl zt_tf zt_fd zt_nf zm_263.1.1.cls zm_263.1.1.name r) = true := by decide +kernel
set_option maxRecDepth 100000 in
theorem zy_263_0 : zl_263_0.all (fun r => zz_tb zt_hh zp_P zm_263 r) = true := by decide +kernel
theorem zw_263 : zz_okW zt_hh zp_P zt_cl zt_tf zt_fd zt_nf zt_T zt_N zm_263 := List.forall_mem_cons.mpr ⟨(zz_w_okL zd_263_0 zb_263_0 (zz_places goodWord zq_263_0 zg_263_0) (zz_places zz_isN zr_263_0 zs_263_0) zy_263_0), (fun _ h => absurd h List.not_mem_nil)⟩
set_option maxRecDepth 100000 in
theorem zq_263 : [zz_cw zt_hh zm_263, Cond.initialized zm_263.1.1.cls].map some = ([2156, 227] : List Nat).map (fun i => lw_tbl[i]?) := by rfl
set_option maxRecDepth 100000 in
theorem zg_263 : [zz_cw zt_hh zm_263, Cond.initialized zm_263.1.1.cls].all goodWord = true := by decide +kernel
set_option maxRecDepth 100000 in
theorem zb_263 : (plainName zm_263.1.1.cls && (decide (zm_263.1.1.cls ≠ "java/lang/invoke/MethodHandle" ∧ zm_263.1.1.cls ≠ "java/lang/invoke/VarHandle") && decide (zm_263.1.2.2.1 ≤ 40))) = true := by decide +kernel
theorem zo_263 : zz_okM zt_hh zp_P zt_cl zt_tf zt_fd zt_nf zt_T zt_N zm_263 := zz_w_okM zw_263 zb_263 (zz_places goodWord zq_263 zg_263)
set_option maxRecDepth 100000 in
theorem zd_264_0 : ∀ r ∈ zl_264_0, decode zm_264.1.2.1 r.1 = .ok (r.2.1, r.2.2.1) := by decide +kernel
set_option maxRecDepth 100000 in
theorem zq_264_0 : (zl_264_0.flatMap (zz_wr zt_hh zp_P zt_cl zm_264.1.1.cls)).map some = ([1797, 1799, 1792] : List Nat).map (fun i => lw_tbl[i]?) := by rfl
set_option maxRecDepth 100000 in
theorem zg_264_0 : (zl_264_0.flatMap (zz_wr zt_hh zp_P zt_cl zm_264.1.1.cls)).all goodWord = true := by decide +kernel
set_option maxRecDepth 100000 in
theorem zr_264_0 : (zl_264_0.flatMap (zz_wn zp_P zm_264.1.1.cls)).map some = ([] : List Nat).map (fun i => lw_tbl[i]?) := by rfl
set_option maxRecDepth 100000 in
theorem zs_264_0 : (zl_264_0.flatMap (zz_wn zp_P zm_264.1.1.cls)).all zz_isN = true := by decide +kernel
set_option maxRecDepth 100000 in
theorem zb_264_0 : zl_264_0.all (fun r => zz_wb zt_hh zp_P zt_cl zt_tf zt_fd zt_nf zm_264.1.1.cls zm_264.1.1.name r) = true := by decide +kernel
set_option maxRecDepth 100000 in
theorem zy_264_0 : zl_264_0.all (fun r => zz_tb zt_hh zp_P zm_264 r) = true := by decide +kernel
theorem zw_264 : zz_okW zt_hh zp_P zt_cl zt_tf zt_fd zt_nf zt_T zt_N zm_264 := List.forall_mem_cons.mpr ⟨(zz_w_okL zd_264_0 zb_264_0 (zz_places goodWord zq_264_0 zg_264_0) (zz_places zz_isN zr_264_0 zs_264_0) zy_264_0), (fun _ h => absurd h List.not_mem_nil)⟩
set_option maxRecDepth 100000 in
theorem zq_264 : [zz_cw zt_hh zm_264, Cond.initialized zm_264.1.1.cls].map some = ([2120, 227] : List Nat).map (fun i => lw_tbl[i]?) := by rfl
set_option maxRecDepth 100000 in
theorem zg_264 : [zz_cw zt_hh zm_264, Cond.initialized zm_264.1.1.cls].all goodWord = true := by decide +kernel
set_option maxRecDepth 100000 in
theorem zb_264 : (plainName zm_264.1.1.cls && (decide (zm_264.1.1.cls ≠ "java/lang/invoke/MethodHandle" ∧ zm_264.1.1.cls ≠ "java/lang/invoke/VarHandle") && decide (zm_264.1.2.2.1 ≤ 40))) = true := by decide +kernel
theorem zo_264 : zz_okM zt_hh zp_P zt_cl zt_tf zt_fd zt_nf zt_T zt_N zm_264 := zz_w_okM zw_264 zb_264 (zz_places goodWord zq_264 zg_264)
set_option maxRecDepth 100000 in
theorem zd_265_0 : ∀ r ∈ zl_265_0, decode zm_265.1.2.1 r.1 = .ok (r.2.1, r.2.2.1) := by decide +kernel
set_option maxRecDepth 100000 in
theorem zq_265_0 : (zl_265_0.flatMap (zz_wr zt_hh zp_P zt_cl zm_265.1.1.cls)).map some = ([1797, 1792, 1799] : List Nat).map (fun i => lw_tbl[i]?) := by rfl
set_option maxRecDepth 100000 in
theorem zg_265_0 : (zl_265_0.flatMap (zz_wr zt_hh zp_P zt_cl zm_265.1.1.cls)).all goodWord = true := by decide +kernel
set_option maxRecDepth 100000 in
theorem zr_265_0 : (zl_265_0.flatMap (zz_wn zp_P zm_265.1.1.cls)).map some = ([] : List Nat).map (fun i => lw_tbl[i]?) := by rfl
set_option maxRecDepth 100000 in
theorem zs_265_0 : (zl_265_0.flatMap (zz_wn zp_P zm_265.1.1.cls)).all zz_isN = true := by decide +kernel
set_option maxRecDepth 100000 in
theorem zb_265_0 : zl_265_0.all (fun r => zz_wb zt_hh zp_P zt_cl zt_tf zt_fd zt_nf zm_265.1.1.cls zm_265.1.1.name r) = true := by decide +kernel
set_option maxRecDepth 100000 in
theorem zy_265_0 : zl_265_0.all (fun r => zz_tb zt_hh zp_P zm_265 r) = true := by decide +kernel
theorem zw_265 : zz_okW zt_hh zp_P zt_cl zt_tf zt_fd zt_nf zt_T zt_N zm_265 := List.forall_mem_cons.mpr ⟨(zz_w_okL zd_265_0 zb_265_0 (zz_places goodWord zq_265_0 zg_265_0) (zz_places zz_isN zr_265_0 zs_265_0) zy_265_0), (fun _ h => absurd h List.not_mem_nil)⟩
set_option maxRecDepth 100000 in
theorem zq_265 : [zz_cw zt_hh zm_265, Cond.initialized zm_265.1.1.cls].map some = ([2140, 227] : List Nat).map (fun i => lw_tbl[i]?) := by rfl
set_option maxRecDepth 100000 in
theorem zg_265 : [zz_cw zt_hh zm_265, Cond.initialized zm_265.1.1.cls].all goodWord = true := by decide +kernel
set_option maxRecDepth 100000 in
theorem zb_265 : (plainName zm_265.1.1.cls && (decide (zm_265.1.1.cls ≠ "java/lang/invoke/MethodHandle" ∧ zm_265.1.1.cls ≠ "java/lang/invoke/VarHandle") && decide (zm_265.1.2.2.1 ≤ 40))) = true := by decide +kernel
theorem zo_265 : zz_okM zt_hh zp_P zt_cl zt_tf zt_fd zt_nf zt_T zt_N zm_265 := zz_w_okM zw_265 zb_265 (zz_places goodWord zq_265 zg_265)
set_option maxRecDepth 100000 in
theorem zd_266_0 : ∀ r ∈ zl_266_0, decode zm_266.1.2.1 r.1 = .ok (r.2.1, r.2.2.1) := by decide +kernel
set_option maxRecDepth 100000 in
theorem zq_266_0 : (zl_266_0.flatMap (zz_wr zt_hh zp_P zt_cl zm_266.1.1.cls)).map some = ([1797, 2139, 126, 2137] : List Nat).map (fun i => lw_tbl[i]?) := by rfl
set_option maxRecDepth 100000 in
theorem zg_266_0 : (zl_266_0.flatMap (zz_wr zt_hh zp_P zt_cl zm_266.1.1.cls)).all goodWord = true := by decide +kernel
set_option maxRecDepth 100000 in
theorem zr_266_0 : (zl_266_0.flatMap (zz_wn zp_P zm_266.1.1.cls)).map some = ([] : List Nat).map (fun i => lw_tbl[i]?) := by rfl
set_option maxRecDepth 100000 in
theorem zs_266_0 : (zl_266_0.flatMap (zz_wn zp_P zm_266.1.1.cls)).all zz_isN = true := by decide +kernel
set_option maxRecDepth 100000 in
theorem zb_266_0 : zl_266_0.all (fun r => zz_wb zt_hh zp_P zt_cl zt_tf zt_fd zt_nf zm_266.1.1.cls zm_266.1.1.name r) = true := by decide +kernel
set_option maxRecDepth 100000 in
theorem zy_266_0 : zl_266_0.all (fun r => zz_tb zt_hh zp_P zm_266 r) = true := by decide +kernel
theorem zw_266 : zz_okW zt_hh zp_P zt_cl zt_tf zt_fd zt_nf zt_T zt_N zm_266 := List.forall_mem_cons.mpr ⟨(zz_w_okL zd_266_0 zb_266_0 (zz_places goodWord zq_266_0 zg_266_0) (zz_places zz_isN zr_266_0 zs_266_0) zy_266_0), (fun _ h => absurd h List.not_mem_nil)⟩
set_option maxRecDepth 100000 in
theorem zq_266 : [zz_cw zt_hh zm_266, Cond.initialized zm_266.1.1.cls].map some = ([2136, 227] : List Nat).map (fun i => lw_tbl[i]?) := by rfl
set_option maxRecDepth 100000 in
theorem zg_266 : [zz_cw zt_hh zm_266, Cond.initialized zm_266.1.1.cls].all goodWord = true := by decide +kernel
set_option maxRecDepth 100000 in
theorem zb_266 : (plainName zm_266.1.1.cls && (decide (zm_266.1.1.cls ≠ "java/lang/invoke/MethodHandle" ∧ zm_266.1.1.cls ≠ "java/lang/invoke/VarHandle") && decide (zm_266.1.2.2.1 ≤ 40))) = true := by decide +kernel
theorem zo_266 : zz_okM zt_hh zp_P zt_cl zt_tf zt_fd zt_nf zt_T zt_N zm_266 := zz_w_okM zw_266 zb_266 (zz_places goodWord zq_266 zg_266)
set_option maxRecDepth 100000 in
theorem zd_267_0 : ∀ r ∈ zl_267_0, decode zm_267.1.2.1 r.1 = .ok (r.2.1, r.2.2.1) := by decide +kernel
set_option maxRecDepth 100000 in
theorem zq_267_0 : (zl_267_0.flatMap (zz_wr zt_hh zp_P zt_cl zm_267.1.1.cls)).map some = ([1801, 2155, 129, 2153, 1803, 1803, 2123, 122, 2121, 2127, 123, 2125] : List Nat).map (fun i => lw_tbl[i]?) := by rfl
set_option maxRecDepth 100000 in
theorem zg_267_0 : (zl_267_0.flatMap (zz_wr zt_hh zp_P zt_cl zm_267.1.1.cls)).all goodWord = true := by decide +kernel
set_option maxRecDepth 100000 in
theorem zr_267_0 : (zl_267_0.flatMap (zz_wn zp_P zm_267.1.1.cls)).map some = ([] : List Nat).map (fun i => lw_tbl[i]?) := by rfl
set_option maxRecDepth 100000 in
theorem zs_267_0 : (zl_267_0.flatMap (zz_wn zp_P zm_267.1.1.cls)).all zz_isN = true := by decide +kernel
set_option maxRecDepth 100000 in
theorem zb_267_0 : zl_267_0.all (fun r => zz_wb zt_hh zp_P zt_cl zt_tf zt_fd zt_nf zm_267.1.1.cls zm_267.1.1.name r) = true := by decide +kernel
set_option maxRecDepth 100000 in
theorem zy_267_0 : zl_267_0.all (fun r => zz_tb zt_hh zp_P zm_267 r) = true := by decide +kernel
theorem zw_267 : zz_okW zt_hh zp_P zt_cl zt_tf zt_fd zt_nf zt_T zt_N zm_267 := List.forall_mem_cons.mpr ⟨(zz_w_okL zd_267_0 zb_267_0 (zz_places goodWord zq_267_0 zg_267_0) (zz_places zz_isN zr_267_0 zs_267_0) zy_267_0), (fun _ h => absurd h List.not_mem_nil)⟩
set_option maxRecDepth 100000 in
theorem zq_267 : [zz_cw zt_hh zm_267, Cond.initialized zm_267.1.1.cls].map some = ([2160, 227] : List Nat).map (fun i => lw_tbl[i]?) := by rfl
set_option maxRecDepth 100000 in
theorem zg_267 : [zz_cw zt_hh zm_267, Cond.initialized zm_267.1.1.cls].all goodWord = true := by decide +kernel
set_option maxRecDepth 100000 in
theorem zb_267 : (plainName zm_267.1.1.cls && (decide (zm_267.1.1.cls ≠ "java/lang/invoke/MethodHandle" ∧ zm_267.1.1.cls ≠ "java/lang/invoke/VarHandle") && decide (zm_267.1.2.2.1 ≤ 40))) = true := by decide +kernel
theorem zo_267 : zz_okM zt_hh zp_P zt_cl zt_tf zt_fd zt_nf zt_T zt_N zm_267 := zz_w_okM zw_267 zb_267 (zz_places goodWord zq_267 zg_267)
set_option maxRecDepth 100000 in
theorem zd_268_0 : ∀ r ∈ zl_268_0, decode zm_268.1.2.1 r.1 = .ok (r.2.1, r.2.2.1) := by decide +kernel
set_option maxRecDepth 100000 in
theorem zq_268_0 : (zl_268_0.flatMap (zz_wr zt_hh zp_P zt_cl zm_268.1.1.cls)).map some = ([1801, 2155, 129, 2153, 2127, 123, 2125, 1803, 1803, 1803, 1798, 2077, 114, 2075, 2123, 122, 2121] : List Nat).map (fun i => lw_tbl[i]?) := by rfl
set_option maxRecDepth 100000 in
theorem zg_268_0 : (zl_268_0.flatMap (zz_wr zt_hh zp_P zt_cl zm_268.1.1.cls)).all goodWord = true := by decide +kernel
set_option maxRecDepth 100000 in
theorem zr_268_0 : (zl_268_0.flatMap (zz_wn zp_P zm_268.1.1.cls)).map some = ([] : List Nat).map (fun i => lw_tbl[i]?) := by rfl
set_option maxRecDepth 100000 in
theorem zs_268_0 : (zl_268_0.flatMap (zz_wn zp_P zm_268.1.1.cls)).all zz_isN = true := by decide +kernel
set_option maxRecDepth 100000 in
theorem zb_268_0 : zl_268_0.all (fun r => zz_wb zt_hh zp_P zt_cl zt_tf zt_fd zt_nf zm_268.1.1.cls zm_268.1.1.name r) = true := by decide +kernel
set_option maxRecDepth 100000 in
theorem zy_268_0 : zl_268_0.all (fun r => zz_tb zt_hh zp_P zm_268 r) = true := by decide +kernel
theorem zw_268 : zz_okW zt_hh zp_P zt_cl zt_tf zt_fd zt_nf zt_T zt_N zm_268 := List.forall_mem_cons.mpr ⟨(zz_w_okL zd_268_0 zb_268_0 (zz_places goodWord zq_268_0 zg_268_0) (zz_places zz_isN zr_268_0 zs_268_0) zy_268_0), (fun _ h => absurd h List.not_mem_nil)⟩
set_option maxRecDepth 100000 in
theorem zq_268 : [zz_cw zt_hh zm_268, Cond.initialized zm_268.1.1.cls].map some = ([2152, 227] : List Nat).map (fun i => lw_tbl[i]?) := by rfl
set_option maxRecDepth 100000 in
theorem zg_268 : [zz_cw zt_hh zm_268, Cond.initialized zm_268.1.1.cls].all goodWord = true := by decide +kernel
set_option maxRecDepth 100000 in
theorem zb_268 : (plainName zm_268.1.1.cls && (decide (zm_268.1.1.cls ≠ "java/lang/invoke/MethodHandle" ∧ zm_268.1.1.cls ≠ "java/lang/invoke/VarHandle") && decide (zm_268.1.2.2.1 ≤ 40))) = true := by decide +kernel
theorem zo_268 : zz_okM zt_hh zp_P zt_cl zt_tf zt_fd zt_nf zt_T zt_N zm_268 := zz_w_okM zw_268 zb_268 (zz_places goodWord zq_268 zg_268)
set_option maxRecDepth 100000 in
theorem zd_269_0 : ∀ r ∈ zl_269_0, decode zm_269.1.2.1 r.1 = .ok (r.2.1, r.2.2.1) := by decide +kernel
set_option maxRecDepth 100000 in
theorem zq_269_0 : (zl_269_0.flatMap (zz_wr zt_hh zp_P zt_cl zm_269.1.1.cls)).map some = ([1801, 2119, 121, 2117, 2123, 122, 2121, 2127, 123, 2125] : List Nat).map (fun i => lw_tbl[i]?) := by rfl
set_option maxRecDepth 100000 in
theorem zg_269_0 : (zl_269_0.flatMap (zz_wr zt_hh zp_P zt_cl zm_269.1.1.cls)).all goodWord = true := by decide +kernel
set_option maxRecDepth 100000 in
theorem zr_269_0 : (zl_269_0.flatMap (zz_wn zp_P zm_269.1.1.cls)).map some = ([] : List Nat).map (fun i => lw_tbl[i]?) := by rfl
set_option maxRecDepth 100000 in
theorem zs_269_0 : (zl_269_0.flatMap (zz_wn zp_P zm_269.1.1.cls)).all zz_isN = true := by decide +kernel
set_option maxRecDepth 100000 in
theorem zb_269_0 : zl_269_0.all (fun r => zz_wb zt_hh zp_P zt_cl zt_tf zt_fd zt_nf zm_269.1.1.cls zm_269.1.1.name r) = true := by decide +kernel
set_option maxRecDepth 100000 in
theorem zy_269_0 : zl_269_0.all (fun r => zz_tb zt_hh zp_P zm_269 r) = true := by decide +kernel
theorem zw_269 : zz_okW zt_hh zp_P zt_cl zt_tf zt_fd zt_nf zt_T zt_N zm_269 := List.forall_mem_cons.mpr ⟨(zz_w_okL zd_269_0 zb_269_0 (zz_places goodWord zq_269_0 zg_269_0) (zz_places zz_isN zr_269_0 zs_269_0) zy_269_0), (fun _ h => absurd h List.not_mem_nil)⟩
set_option maxRecDepth 100000 in
theorem zq_269 : [zz_cw zt_hh zm_269, Cond.initialized zm_269.1.1.cls].map some = ([2116, 227] : List Nat).map (fun i => lw_tbl[i]?) := by rfl
set_option maxRecDepth 100000 in
theorem zg_269 : [zz_cw zt_hh zm_269, Cond.initialized zm_269.1.1.cls].all goodWord = true := by decide +kernel
set_option maxRecDepth 100000 in
theorem zb_269 : (plainName zm_269.1.1.cls && (decide (zm_269.1.1.cls ≠ "java/lang/invoke/MethodHandle" ∧ zm_269.1.1.cls ≠ "java/lang/invoke/VarHandle") && decide (zm_269.1.2.2.1 ≤ 40))) = true := by decide +kernel
theorem zo_269 : zz_okM zt_hh zp_P zt_cl zt_tf zt_fd zt_nf zt_T zt_N zm_269 := zz_w_okM zw_269 zb_269 (zz_places goodWord zq_269 zg_269)
set_option maxRecDepth 100000 in
theorem zd_270_0 : ∀ r ∈ zl_270_0, decode zm_270.1.2.1 r.1 = .ok (r.2.1, r.2.2.1) := by decide +kernel
set_option maxRecDepth 100000 in
theorem zq_270_0 : (zl_270_0.flatMap (zz_wr zt_hh zp_P zt_cl zm_270.1.1.cls)).map some = ([1800, 2085, 116, 2083, 2089, 117, 2087] : List Nat).map (fun i => lw_tbl[i]?) := by rfl
set_option maxRecDepth 100000 in
theorem zg_270_0 : (zl_270_0.flatMap (zz_wr zt_hh zp_P zt_cl zm_270.1.1.cls)).all goodWord = true := by decide +kernel
set_option maxRecDepth 100000 in
theorem zr_270_0 : (zl_270_0.flatMap (zz_wn zp_P zm_270.1.1.cls)).map some = ([] : List Nat).map (fun i => lw_tbl[i]?) := by rfl
set_option maxRecDepth 100000 in
theorem zs_270_0 : (zl_270_0.flatMap (zz_wn zp_P zm_270.1.1.cls)).all zz_isN = true := by decide +kernel
set_option maxRecDepth 100000 in
theorem zb_270_0 : zl_270_0.all (fun r => zz_wb zt_hh zp_P zt_cl zt_tf zt_fd zt_nf zm_270.1.1.cls zm_270.1.1.name r) = true := by decide +kernel
set_option maxRecDepth 100000 in
theorem zy_270_0 : zl_270_0.all (fun r => zz_tb zt_hh zp_P zm_270 r) = true := by decide +kernel
theorem zw_270 : zz_okW zt_hh zp_P zt_cl zt_tf zt_fd zt_nf zt_T zt_N zm_270 := List.forall_mem_cons.mpr ⟨(zz_w_okL zd_270_0 zb_270_0 (zz_places goodWord zq_270_0 zg_270_0) (zz_places zz_isN zr_270_0 zs_270_0) zy_270_0), (fun _ h => absurd h List.not_mem_nil)⟩
set_option maxRecDepth 100000 in
theorem zq_270 : [zz_cw zt_hh zm_270, Cond.initialized zm_270.1.1.cls].map some = ([2188, 227] : List Nat).map (fun i => lw_tbl[i]?) := by rfl
set_option maxRecDepth 100000 in
theorem zg_270 : [zz_cw zt_hh zm_270, Cond.initialized zm_270.1.1.cls].all goodWord = true := by decide +kernel
set_option maxRecDepth 100000 in
theorem zb_270 : (plainName zm_270.1.1.cls && (decide (zm_270.1.1.cls ≠ "java/lang/invoke/MethodHandle" ∧ zm_270.1.1.cls ≠ "java/lang/invoke/VarHandle") && decide (zm_270.1.2.2.1 ≤ 40))) = true := by decide +kernel
theorem zo_270 : zz_okM zt_hh zp_P zt_cl zt_tf zt_fd zt_nf zt_T zt_N zm_270 := zz_w_okM zw_270 zb_270 (zz_places goodWord zq_270 zg_270)
set_option maxRecDepth 100000 in
theorem zd_271_0 : ∀ r ∈ zl_271_0, decode zm_271.1.2.1 r.1 = .ok (r.2.1, r.2.2.1) := by decide +kernel
set_option maxRecDepth 100000 in
theorem zq_271_0 : (zl_271_0.flatMap (zz_wr zt_hh zp_P zt_cl zm_271.1.1.cls)).map some = ([1804, 1820, 1815, 1816, 1817, 1818, 1819, 1820] : List Nat).map (fun i => lw_tbl[i]?) := by rfl
set_option maxRecDepth 100000 in
theorem zg_271_0 : (zl_271_0.flatMap (zz_wr zt_hh zp_P zt_cl zm_271.1.1.cls)).all goodWord = true := by decide +kernel
set_option maxRecDepth 100000 in
theorem zr_271_0 : (zl_271_0.flatMap (zz_wn zp_P zm_271.1.1.cls)).map some = ([] : List Nat).map (fun i => lw_tbl[i]?) := by rfl
set_option maxRecDepth 100000 in
theorem zs_271_0 : (zl_271_0.flatMap (zz_wn zp_P zm_271.1.1.cls)).all zz_isN = true := by decide +kernel
set_option maxRecDepth 100000 in
theorem zb_271_0 : zl_271_0.all (fun r => zz_wb zt_hh zp_P zt_cl zt_tf zt_fd zt_nf zm_271.1.1.cls zm_271.1.1.name r) = true := by decide +kernel
set_option maxRecDepth 100000 in
theorem zd_271_1 : ∀ r ∈ zl_271_1, decode zm_271.1.2.1 r.1 = .ok (r.2.1, r.2.2.1) := by decide +kernel
set_option maxRecDepth 100000 in
theorem zq_271_1 : (zl_271_1.flatMap (zz_wr zt_hh zp_P zt_cl zm_271.1.1.cls)).map some = ([1820] : List Nat).map (fun i => lw_tbl[i]?) := by rfl
set_option maxRecDepth 100000 in
theorem zg_271_1 : (zl_271_1.flatMap (zz_wr zt_hh zp_P zt_cl zm_271.1.1.cls)).all goodWord = true := by decide +kernel
set_option maxRecDepth 100000 in
theorem zr_271_1 : (zl_271_1.flatMap (zz_wn zp_P zm_271.1.1.cls)).map some = ([] : List Nat).map (fun i => lw_tbl[i]?) := by rfl
set_option maxRecDepth 100000 in
theorem zs_271_1 : (zl_271_1.flatMap (zz_wn zp_P zm_271.1.1.cls)).all zz_isN = true := by decide +kernel
set_option maxRecDepth 100000 in
theorem zb_271_1 : zl_271_1.all (fun r => zz_wb zt_hh zp_P zt_cl zt_tf zt_fd zt_nf zm_271.1.1.cls zm_271.1.1.name r) = true := by decide +kernel
set_option maxRecDepth 100000 in
theorem zy_271_0 : zl_271_0.all (fun r => zz_tb zt_hh zp_P zm_271 r) = true := by decide +kernel
set_option maxRecDepth 100000 in
theorem zy_271_1 : zl_271_1.all (fun r => zz_tb zt_hh zp_P zm_271 r) = true := by decide +kernel
theorem zw_271 : zz_okW zt_hh zp_P zt_cl zt_tf zt_fd zt_nf zt_T zt_N zm_271 := List.forall_mem_cons.mpr ⟨(zz_w_okL zd_271_0 zb_271_0 (zz_places goodWord zq_271_0 zg_271_0) (zz_places zz_isN zr_271_0 zs_271_0) zy_271_0), List.forall_mem_cons.mpr ⟨(zz_w_okL zd_271_1 zb_271_1 (zz_places goodWord zq_271_1 zg_271_1) (zz_places zz_isN zr_271_1 zs_271_1) zy_271_1), (fun _ h => absurd h List.not_mem_nil)⟩⟩
set_option maxRecDepth 100000 in
theorem zq_271 : [zz_cw zt_hh zm_271, Cond.initialized zm_271.1.1.cls].map some = ([2176, 227] : List Nat).map (fun i => lw_tbl[i]?) := by rfl
set_option maxRecDepth 100000 in
theorem zg_271 : [zz_cw zt_hh zm_271, Cond.initialized zm_271.1.1.cls].all goodWord = true := by decide +kernel
set_option maxRecDepth 100000 in
theorem zb_271 : (plainName zm_271.1.1.cls && (decide (zm_271.1.1.cls ≠ "java/lang/invoke/MethodHandle" ∧ zm_271.1.1.cls ≠ "java/lang/invoke/VarHandle") && decide (zm_271.1.2.2.1 ≤ 40))) = true := by decide +kernel
theorem zo_271 : zz_okM zt_hh zp_P zt_cl zt_tf zt_fd zt_nf zt_T zt_N zm_271 := zz_w_okM zw_271 zb_271 (zz_places goodWord zq_271 zg_271)
set_option maxRecDepth 100000 in
theorem zd_272_0 : ∀ r ∈ zl_272_0, decode zm_272.1.2.1 r.1 = .ok (r.2.1, r.2.2.1) := by decide +kernel
set_option maxRecDepth 100000 in
theorem zq_272_0 : (zl_272_0.flatMap (zz_wr zt_hh zp_P zt_cl zm_272.1.1.cls)).map some = ([1804, 1820] : List Nat).map (fun i => lw_tbl[i]?) := by rfl
set_option maxRecDepth 100000 in
theorem zg_272_0 : (zl_272_0.flatMap (zz_wr zt_hh zp_P zt_cl zm_272.1.1.cls)).all goodWord = true := by decide +kernel
set_option maxRecDepth 100000 in
theorem zr_272_0 : (zl_272_0.flatMap (zz_wn zp_P zm_272.1.1.cls)).map some = ([] : List Nat).map (fun i => lw_tbl[i]?) := by rfl
set_option maxRecDepth 100000 in
theorem zs_272_0 : (zl_272_0.flatMap (zz_wn zp_P zm_272.1.1.cls)).all zz_isN = true := by decide +kernel
set_option maxRecDepth 100000 in
theorem zb_272_0 : zl_272_0.all (fun r => zz_wb zt_hh zp_P zt_cl zt_tf zt_fd zt_nf zm_272.1.1.cls zm_272.1.1.name r) = true := by decide +kernel
set_option maxRecDepth 100000 in
theorem zy_272_0 : zl_272_0.all (fun r => zz_tb zt_hh zp_P zm_272 r) = true := by decide +kernel
theorem zw_272 : zz_okW zt_hh zp_P zt_cl zt_tf zt_fd zt_nf zt_T zt_N zm_272 := List.forall_mem_cons.mpr ⟨(zz_w_okL zd_272_0 zb_272_0 (zz_places goodWord zq_272_0 zg_272_0) (zz_places zz_isN zr_272_0 zs_272_0) zy_272_0), (fun _ h => absurd h List.not_mem_nil)⟩
set_option maxRecDepth 100000 in
theorem zq_272 : [zz_cw zt_hh zm_272, Cond.initialized zm_272.1.1.cls].map some = ([2164, 227] : List Nat).map (fun i => lw_tbl[i]?) := by rfl
set_option maxRecDepth 100000 in
theorem zg_272 : [zz_cw zt_hh zm_272, Cond.initialized zm_272.1.1.cls].all goodWord = true := by decide +kernel
set_option maxRecDepth 100000 in
theorem zb_272 : (plainName zm_272.1.1.cls && (decide (zm_272.1.1.cls ≠ "java/lang/invoke/MethodHandle" ∧ zm_272.1.1.cls ≠ "java/lang/invoke/VarHandle") && decide (zm_272.1.2.2.1 ≤ 40))) = true := by decide +kernel
theorem zo_272 : zz_okM zt_hh zp_P zt_cl zt_tf zt_fd zt_nf zt_T zt_N zm_272 := zz_w_okM zw_272 zb_272 (zz_places goodWord zq_272 zg_272)
set_option maxRecDepth 100000 in
theorem zd_273_0 : ∀ r ∈ zl_273_0, decode zm_273.1.2.1 r.1 = .ok (r.2.1, r.2.2.1) := by decide +kernel
set_option maxRecDepth 100000 in
theorem zq_273_0 : (zl_273_0.flatMap (zz_wr zt_hh zp_P zt_cl zm_273.1.1.cls)).map some = ([1822, 1821, 1825, 1821, 1824, 1821, 1823, 1821, 1821, 1821] : List Nat).map (fun i => lw_tbl[i]?) := by rfl
set_option maxRecDepth 100000 in
theorem zg_273_0 : (zl_273_0.flatMap (zz_wr zt_hh zp_P zt_cl zm_273.1.1.cls)).all goodWord = true := by decide +kernel
set_option maxRecDepth 100000 in
theorem zr_273_0 : (zl_273_0.flatMap (zz_wn zp_P zm_273.1.1.cls)).map some = ([] : List Nat).map (fun i => lw_tbl[i]?) := by rfl
set_option maxRecDepth 100000 in
theorem zs_273_0 : (zl_273_0.flatMap (zz_wn zp_P zm_273.1.1.cls)).all zz_isN = true := by decide +kernel
set_option maxRecDepth 100000 in
theorem zb_273_0 : zl_273_0.all (fun r => zz_wb zt_hh zp_P zt_cl zt_tf zt_fd zt_nf zm_273.1.1.cls zm_273.1.1.name r) = true := by decide +kernel
set_option maxRecDepth 100000 in
theorem zy_273_0 : zl_273_0.all (fun r => zz_tb zt_hh zp_P zm_273 r) = true := by decide +kernel
theorem zw_273 : zz_okW zt_hh zp_P zt_cl zt_tf zt_fd zt_nf zt_T zt_N zm_273 := List.forall_mem_cons.mpr ⟨(zz_w_okL zd_273_0 zb_273_0 (zz_places goodWord zq_273_0 zg_273_0) (zz_places zz_isN zr_273_0 zs_273_0) zy_273_0), (fun _ h => absurd h List.not_mem_nil)⟩
set_option maxRecDepth 100000 in
theorem zq_273 : [zz_cw zt_hh zm_273, Cond.initialized zm_273.1.1.cls].map some = ([2216, 227] : List Nat).map (fun i => lw_tbl[i]?) := by rfl
set_option maxRecDepth 100000 in
theorem zg_273 : [zz_cw zt_hh zm_273, Cond.initialized zm_273.1.1.cls].all goodWord = true := by decide +kernel
set_option maxRecDepth 100000 in
theorem zb_273 : (plainName zm_273.1.1.cls && (decide (zm_273.1.1.cls ≠ "java/lang/invoke/MethodHandle" ∧ zm_273.1.1.cls ≠ "java/lang/invoke/VarHandle") && decide (zm_273.1.2.2.1 ≤ 40))) = true := by decide +kernel
theorem zo_273 : zz_okM zt_hh zp_P zt_cl zt_tf zt_fd zt_nf zt_T zt_N zm_273 := zz_w_okM zw_273 zb_273 (zz_places goodWord zq_273 zg_273)
set_option maxRecDepth 100000 in
theorem zd_274_0 : ∀ r ∈ zl_274_0, decode zm_274.1.2.1 r.1 = .ok (r.2.1, r.2.2.1) := by decide +kernel
set_option maxRecDepth 100000 in
theorem zq_274_0 : (zl_274_0.flatMap (zz_wr zt_hh zp_P zt_cl zm_274.1.1.cls)).map some = ([2144] : List Nat).map (fun i => lw_tbl[i]?) := by rfl
set_option maxRecDepth 100000 in
theorem zg_274_0 : (zl_274_0.flatMap (zz_wr zt_hh zp_P zt_cl zm_274.1.1.cls)).all goodWord = true := by decide +kernel
set_option maxRecDepth 100000 in
theorem zr_274_0 : (zl_274_0.flatMap (zz_wn zp_P zm_274.1.1.cls)).map some = ([] : List Nat).map (fun i => lw_tbl[i]?) := by rfl
set_option maxRecDepth 100000 in
theorem zs_274_0 : (zl_274_0.flatMap (zz_wn zp_P zm_274.1.1.cls)).all zz_isN = true := by decide +kernel
set_option maxRecDepth 100000 in
theorem zb_274_0 : zl_274_0.all (fun r => zz_wb zt_hh zp_P zt_cl zt_tf zt_fd zt_nf zm_274.1.1.cls zm_274.1.1.name r) = true := by decide +kernel
set_option maxRecDepth 100000 in
theorem zy_274_0 : zl_274_0.all (fun r => zz_tb zt_hh zp_P zm_274 r) = true := by decide +kernel
theorem zw_274 : zz_okW zt_hh zp_P zt_cl zt_tf zt_fd zt_nf zt_T zt_N zm_274 := List.forall_mem_cons.mpr ⟨(zz_w_okL zd_274_0 zb_274_0 (zz_places goodWord zq_274_0 zg_274_0) (zz_places zz_isN zr_274_0 zs_274_0) zy_274_0), (fun _ h => absurd h List.not_mem_nil)⟩
set_option maxRecDepth 100000 in
theorem zq_274 : [zz_cw zt_hh zm_274, Cond.initialized zm_274.1.1.cls].map some = ([2143, 227] : List Nat).map (fun i => lw_tbl[i]?) := by rfl
set_option maxRecDepth 100000 in
theorem zg_274 : [zz_cw zt_hh zm_274, Cond.initialized zm_274.1.1.cls].all goodWord = true := by decide +kernel
set_option maxRecDepth 100000 in
theorem zb_274 : (plainName zm_274.1.1.cls && (decide (zm_274.1.1.cls ≠ "java/lang/invoke/MethodHandle" ∧ zm_274.1.1.cls ≠ "java/lang/invoke/VarHandle") && decide (zm_274.1.2.2.1 ≤ 40))) = true := by decide +kernel
theorem zo_274 : zz_okM zt_hh zp_P zt_cl zt_tf zt_fd zt_nf zt_T zt_N zm_274 := zz_w_okM zw_274 zb_274 (zz_places goodWord zq_274 zg_274)
set_option maxRecDepth 100000 in
theorem zd_275_0 : ∀ r ∈ zl_275_0, decode zm_275.1.2.1 r.1 = .ok (r.2.1, r.2.2.1) := by decide +kernel
set_option maxRecDepth 100000 in
theorem zq_275_0 : (zl_275_0.flatMap (zz_wr zt_hh zp_P zt_cl zm_275.1.1.cls)).map some = ([1801, 2135, 125, 2133, 2127, 123, 2125, 1799, 2142, 2141, 1799, 2123, 122, 2121, 1814, 1813, 1799] : List Nat).map (fun i => lw_tbl[i]?) := by rfl
set_option maxRecDepth 100000 in
theorem zg_275_0 : (zl_275_0.flatMap (zz_wr zt_hh zp_P zt_cl zm_275.1.1.cls)).all goodWord = true := by decide +kernel
set_option maxRecDepth 100000 in
theorem zr_275_0 : (zl_275_0.flatMap (zz_wn zp_P zm_275.1.1.cls)).map some = ([] : List Nat).map (fun i => lw_tbl[i]?) := by rfl
set_option maxRecDepth 100000 in
theorem zs_275_0 : (zl_275_0.flatMap (zz_wn zp_P zm_275.1.1.cls)).all zz_isN = true := by decide +kernel
set_option maxRecDepth 100000 in
theorem zb_275_0 : zl_275_0.all (fun r => zz_wb zt_hh zp_P zt_cl zt_tf zt_fd zt_nf zm_275.1.1.cls zm_275.1.1.name r) = true := by decide +kernel
set_option maxRecDepth 100000 in
theorem zd_275_1 : ∀ r ∈ zl_275_1, decode zm_275.1.2.1 r.1 = .ok (r.2.1, r.2.2.1) := by decide +kernel
set_option maxRecDepth 100000 in
theorem zq_275_1 : (zl_275_1.flatMap (zz_wr zt_hh zp_P zt_cl zm_275.1.1.cls)).map some = ([1798, 2077, 114, 2075, 1813, 1799, 1814, 1814, 1814, 2123, 122, 2121] : List Nat).map (fun i => lw_tbl[i]?) := by rfl
set_option maxRecDepth 100000 in
theorem zg_275_1 : (zl_275_1.flatMap (zz_wr zt_hh zp_P zt_cl zm_275.1.1.cls)).all goodWord = true := by decide +kernel
set_option maxRecDepth 100000 in
theorem zr_275_1 : (zl_275_1.flatMap (zz_wn zp_P zm_275.1.1.cls)).map some = ([] : List Nat).map (fun i => lw_tbl[i]?) := by rfl
set_option maxRecDepth 100000 in
theorem zs_275_1 : (zl_275_1.flatMap (zz_wn zp_P zm_275.1.1.cls)).all zz_isN = true := by decide +kernel
set_option maxRecDepth 100000 in
theorem zb_275_1 : zl_275_1.all (fun r => zz_wb zt_hh zp_P zt_cl zt_tf zt_fd zt_nf zm_275.1.1.cls zm_275.1.1.name r) = true := by decide +kernel
set_option maxRecDepth 100000 in
theorem zy_275_0 : zl_275_0.all (fun r => zz_tb zt_hh zp_P zm_275 r) = true := by decide +kernel
set_option maxRecDepth 100000 in
theorem zy_275_1 : zl_275_1.all (fun r => zz_tb zt_hh zp_P zm_275 r) = true := by decide +kernel
theorem zw_275 : zz_okW zt_hh zp_P zt_cl zt_tf zt_fd zt_nf zt_T zt_N zm_275 := List.forall_mem_cons.mpr ⟨(zz_w_okL zd_275_0 zb_275_0 (zz_places goodWord zq_275_0 zg_275_0) (zz_places zz_isN zr_275_0 zs_275_0) zy_275_0), List.forall_mem_cons.mpr ⟨(zz_w_okL zd_275_1 zb_275_1 (zz_places goodWord zq_275_1 zg_275_1) (zz_places zz_isN zr_275_1 zs_275_1) zy_275_1), (fun _ h => absurd h List.not_mem_nil)⟩⟩
set_option maxRecDepth 100000 in
theorem zq_275 : [zz_cw zt_hh zm_275, Cond.initialized zm_275.1.1.cls].map some = ([2180, 227] : List Nat).map (fun i => lw_tbl[i]?) := by rfl
set_option maxRecDepth 100000 in
theorem zg_275 : [zz_cw zt_hh zm_275, Cond.initialized zm_275.1.1.cls].all goodWord = true := by decide +kernel
set_option maxRecDepth 100000 in
theorem zb_275 : (plainName zm_275.1.1.cls && (decide (zm_275.1.1.cls ≠ "java/lang/invoke/MethodHandle" ∧ zm_275.1.1.cls ≠ "java/lang/invoke/VarHandle") && decide (zm_275.1.2.2.1 ≤ 40))) = true := by decide +kernel
theorem zo_275 : zz_okM zt_hh zp_P zt_cl zt_tf zt_fd zt_nf zt_T zt_N zm_275 := zz_w_okM zw_275 zb_275 (zz_places goodWord zq_275 zg_275)
set_option maxRecDepth 100000 in
theorem zd_276_0 : ∀ r ∈ zl_276_0, decode zm_276.1.2.1 r.1 = .ok (r.2.1, r.2.2.1) := by decide +kernel
set_option maxRecDepth 100000 in
theorem zq_276_0 : (zl_276_0.flatMap (zz_wr zt_hh zp_P zt_cl zm_276.1.1.cls)).map some = ([2151, 128, 2149, 1826, 1829, 1827, 1829, 1828, 1829, 1829, 1829] : List Nat).map (fun i => lw_tbl[i]?) := by rfl
set_option maxRecDepth 100000 in
theorem zg_276_0 : (zl_276_0.flatMap (zz_wr zt_hh zp_P zt_cl zm_276.1.1.cls)).all goodWord = true := by decide +kernel
set_option maxRecDepth 100000 in
theorem zr_276_0 : (zl_276_0.flatMap (zz_wn zp_P zm_276.1.1.cls)).map some = ([] : List Nat).map (fun i => lw_tbl[i]?) := by rfl
set_option maxRecDepth 100000 in
theorem zs_276_0 : (zl_276_0.flatMap (zz_wn zp_P zm_276.1.1.cls)).all zz_isN = true := by decide +kernel
set_option maxRecDepth 100000 in
theorem zb_276_0 : zl_276_0.all (fun r => zz_wb zt_hh zp_P zt_cl zt_tf zt_fd zt_nf zm_276.1.1.cls zm_276.1.1.name r) = true := by decide +kernel
set_option maxRecDepth 100000 in
theorem zy_276_0 : zl_276_0.all (fun r => zz_tb zt_hh zp_P zm_276 r) = true := by decide +kernel
theorem zw_276 : zz_okW zt_hh zp_P zt_cl zt_tf zt_fd zt_nf zt_T zt_N zm_276 := List.forall_mem_cons.mpr ⟨(zz_w_okL zd_276_0 zb_276_0 (zz_places goodWord zq_276_0 zg_276_0) (zz_places zz_isN zr_276_0 zs_276_0) zy_276_0), (fun _ h => absurd h List.not_mem_nil)⟩
set_option maxRecDepth 100000 in
theorem zq_276 : [zz_cw zt_hh zm_276, Cond.initialized zm_276.1.1.cls].map some = ([2168, 227] : List Nat).map (fun i => lw_tbl[i]?) := by rfl
set_option maxRecDepth 100000 in
theorem zg_276 : [zz_cw zt_hh zm_276, Cond.initialized zm_276.1.1.cls].all goodWord = true := by decide +kernel
set_option maxRecDepth 100000 in
theorem zb_276 : (plainName zm_276.1.1.cls && (decide (zm_276.1.1.cls ≠ "java/lang/invoke/MethodHandle" ∧ zm_276.1.1.cls ≠ "java/lang/invoke/VarHandle") && decide (zm_276.1.2.2.1 ≤ 40))) = true := by decide +kernel
theorem zo_276 : zz_okM zt_hh zp_P zt_cl zt_tf zt_fd zt_nf zt_T zt_N zm_276 := zz_w_okM zw_276 zb_276 (zz_places goodWord zq_276 zg_276)
set_option maxRecDepth 100000 in
theorem zd_277_0 : ∀ r ∈ zl_277_0, decode zm_277.1.2.1 r.1 = .ok (r.2.1, r.2.2.1) := by decide +kernel
set_option maxRecDepth 100000 in
theorem zq_277_0 : (zl_277_0.flatMap (zz_wr zt_hh zp_P zt_cl zm_277.1.1.cls)).map some = ([2151, 128, 2149, 1801, 2155, 129, 2153, 1801, 2135, 125, 2133, 2127, 123, 2125, 1814, 1798, 2077, 114, 2075, 1799, 2142, 2141] : List Nat).map (fun i => lw_tbl[i]?) := by rfl
set_option maxRecDepth 100000 in
theorem zg_277_0 : (zl_277_0.flatMap (zz_wr zt_hh zp_P zt_cl zm_277.1.1.cls)).all goodWord = true := by decide +kernel
set_option maxRecDepth 100000 in
theorem zr_277_0 : (zl_277_0.flatMap (zz_wn zp_P zm_277.1.1.cls)).map some = ([] : List Nat).map (fun i => lw_tbl[i]?) := by rfl
set_option maxRecDepth 100000 in
theorem zs_277_0 : (zl_277_0.flatMap (zz_wn zp_P zm_277.1.1.cls)).all zz_isN = true := by decide +kernel
set_option maxRecDepth 100000 in
theorem zb_277_0 : zl_277_0.all (fun r => zz_wb zt_hh zp_P zt_cl zt_tf zt_fd zt_nf zm_277.1.1.cls zm_277.1.1.name r) = true := by decide +kernel
set_option maxRecDepth 100000 in
theorem zd_277_1 : ∀ r ∈ zl_277_1, decode zm_277.1.2.1 r.1 = .ok (r.2.1, r.2.2.1) := by decide +kernel
set_option maxRecDepth 100000 in
theorem zq_277_1 : (zl_277_1.flatMap (zz_wr zt_hh zp_P zt_cl zm_277.1.1.cls)).map some = ([1814, 1813, 1799, 1798, 2077, 114, 2075, 1813, 1814, 1799, 1814] : List Nat).map (fun i => lw_tbl[i]?) := by rfl
set_option maxRecDepth 100000 in
theorem zg_277_1 : (zl_277_1.flatMap (zz_wr zt_hh zp_P zt_cl zm_277.1.1.cls)).all goodWord = true := by decide +kernel
set_option maxRecDepth 100000 in
theorem zr_277_1 : (zl_277_1.flatMap (zz_wn zp_P zm_277.1.1.cls)).map some = ([] : List Nat).map (fun i => lw_tbl[i]?) := by rfl
set_option maxRecDepth 100000 in
theorem zs_277_1 : (zl_277_1.flatMap (zz_wn zp_P zm_277.1.1.cls)).all zz_isN = true := by decide +kernel
set_option maxRecDepth 100000 in
theorem zb_277_1 : zl_277_1.all (fun r => zz_wb zt_hh zp_P zt_cl zt_tf zt_fd zt_nf zm_277.1.1.cls zm_277.1.1.name r) = true := by decide +kernel
set_option maxRecDepth 100000 in
theorem zd_277_2 : ∀ r ∈ zl_277_2, decode zm_277.1.2.1 r.1 = .ok (r.2.1, r.2.2.1) := by decide +kernel
set_option maxRecDepth 100000 in
theorem zq_277_2 : (zl_277_2.flatMap (zz_wr zt_hh zp_P zt_cl zm_277.1.1.cls)).map some = ([1814, 2123, 122, 2121, 2155, 129, 2153, 2123, 122, 2121, 2159, 130, 2157] : List Nat).map (fun i => lw_tbl[i]?) := by rfl
set_option maxRecDepth 100000 in
theorem zg_277_2 : (zl_277_2.flatMap (zz_wr zt_hh zp_P zt_cl zm_277.1.1.cls)).all goodWord = true := by decide +kernel
set_option maxRecDepth 100000 in
theorem zr_277_2 : (zl_277_2.flatMap (zz_wn zp_P zm_277.1.1.cls)).map some = ([] : List Nat).map (fun i => lw_tbl[i]?) := by rfl
set_option maxRecDepth 100000 in
theorem zs_277_2 : (zl_277_2.flatMap (zz_wn zp_P zm_277.1.1.cls)).all zz_isN = true := by decide +kernel
set_option maxRecDepth 100000 in
theorem zb_277_2 : zl_277_2.all (fun r => zz_wb zt_hh zp_P zt_cl zt_tf zt_fd zt_nf zm_277.1.1.cls zm_277.1.1.name r) = true := by decide +kernel
set_option maxRecDepth 100000 in
theorem zy_277_0 : zl_277_0.all (fun r => zz_tb zt_hh zp_P zm_277 r) = true := by decide +kernel
set_option maxRecDepth 100000 in
theorem zy_277_1 : zl_277_1.all (fun r => zz_tb zt_hh zp_P zm_277 r) = true := by decide +kernel
set_option maxRecDepth 100000 in
theorem zy_277_2 : zl_277_2.all (fun r => zz_tb zt_hh zp_P zm_277 r) = true := by decide +kernel
theorem zw_277 : zz_okW zt_hh zp_P zt_cl zt_tf zt_fd zt_nf zt_T zt_N zm_277 := List.forall_mem_cons.mpr ⟨(zz_w_okL zd_277_0 zb_277_0 (zz_places goodWord zq_277_0 zg_277_0) (zz_places zz_isN zr_277_0 zs_277_0) zy_277_0), List.forall_mem_cons.mpr ⟨(zz_w_okL zd_277_1 zb_277_1 (zz_places goodWord zq_277_1 zg_277_1) (zz_places zz_isN zr_277_1 zs_277_1) zy_277_1), List.forall_mem_cons.mpr ⟨(zz_w_okL zd_277_2 zb_277_2 (zz_places goodWord zq_277_2 zg_277_2) (zz_places zz_isN zr_277_2 zs_277_2) zy_277_2), (fun _ h => absurd h List.not_mem_nil)⟩⟩⟩
set_option maxRecDepth 100000 in
theorem zq_277 : [zz_cw zt_hh zm_277, Cond.initialized zm_277.1.1.cls].map some = ([2148, 227] : List Nat).map (fun i => lw_tbl[i]?) := by rfl
set_option maxRecDepth 100000 in
theorem zg_277 : [zz_cw zt_hh zm_277, Cond.initialized zm_277.1.1.cls].all goodWord = true := by decide +kernel
set_option maxRecDepth 100000 in
theorem zb_277 : (plainName zm_277.1.1.cls && (decide (zm_277.1.1.cls ≠ "java/lang/invoke/MethodHandle" ∧ zm_277.1.1.cls ≠ "java/lang/invoke/VarHandle") && decide (zm_277.1.2.2.1 ≤ 40))) = true := by decide +kernel
theorem zo_277 : zz_okM zt_hh zp_P zt_cl zt_tf zt_fd zt_nf zt_T zt_N zm_277 := zz_w_okM zw_277 zb_277 (zz_places goodWord zq_277 zg_277)
set_option maxRecDepth 100000 in
theorem zd_278_0 : ∀ r ∈ zl_278_0, decode zm_278.1.2.1 r.1 = .ok (r.2.1, r.2.2.1) := by decide +kernel
set_option maxRecDepth 100000 in
theorem zq_278_0 : (zl_278_0.flatMap (zz_wr zt_hh zp_P zt_cl zm_278.1.1.cls)).map some = ([2159, 130, 2157, 1829, 1829, 1827, 1829, 1826, 1829, 2175, 134, 2173, 2175, 134, 2173, 1811, 1814] : List Nat).map (fun i => lw_tbl[i]?) := by rfl
set_option maxRecDepth 100000 in
theorem zg_278_0 : (zl_278_0.flatMap (zz_wr zt_hh zp_P zt_cl zm_278.1.1.cls)).all goodWord = true := by decide +kernel
set_option maxRecDepth 100000 in
theorem zr_278_0 : (zl_278_0.flatMap (zz_wn zp_P zm_278.1.1.cls)).map some = ([] : List Nat).map (fun i => lw_tbl[i]?) := by rfl
set_option maxRecDepth 100000 in
theorem zs_278_0 : (zl_278_0.flatMap (zz_wn zp_P zm_278.1.1.cls)).all zz_isN = true := by decide +kernel
set_option maxRecDepth 100000 in
theorem zb_278_0 : zl_278_0.all (fun r => zz_wb zt_hh zp_P zt_cl zt_tf zt_fd zt_nf zm_278.1.1.cls zm_278.1.1.name r) = true := by decide +kernel
set_option maxRecDepth 100000 in
theorem zd_278_1 : ∀ r ∈ zl_278_1, decode zm_278.1.2.1 r.1 = .ok (r.2.1, r.2.2.1) := by decide +kernel
set_option maxRecDepth 100000 in
theorem zq_278_1 : (zl_278_1.flatMap (zz_wr zt_hh zp_P zt_cl zm_278.1.1.cls)).map some = ([2119, 121, 2117, 2175, 134, 2173, 1816, 2163, 131, 2161, 2123, 122, 2121, 2167, 132, 2165, 1816, 2163, 131, 2161, 1828, 1829] : List Nat).map (fun i => lw_tbl[i]?) := by rfl
set_option maxRecDepth 100000 in
theorem zg_278_1 : (zl_278_1.flatMap (zz_wr zt_hh zp_P zt_cl zm_278.1.1.cls)).all goodWord = true := by decide +kernel
set_option maxRecDepth 100000 in
theorem zr_278_1 : (zl_278_1.flatMap (zz_wn zp_P zm_278.1.1.cls)).map some = ([] : List Nat).map (fun i => lw_tbl[i]?) := by rfl
set_option maxRecDepth 100000 in
theorem zs_278_1 : (zl_278_1.flatMap (zz_wn zp_P zm_278.1.1.cls)).all zz_isN = true := by decide +kernel
set_option maxRecDepth 100000 in
theorem zb_278_1 : zl_278_1.all (fun r => zz_wb zt_hh zp_P zt_cl zt_tf zt_fd zt_nf zm_278.1.1.cls zm_278.1.1.name r) = true := by decide +kernel
set_option maxRecDepth 100000 in
theorem zd_278_2 : ∀ r ∈ zl_278_2, decode zm_278.1.2.1 r.1 = .ok (r.2.1, r.2.2.1) := by decide +kernel
set_option maxRecDepth 100000 in
theorem zq_278_2 : (zl_278_2.flatMap (zz_wr zt_hh zp_P zt_cl zm_278.1.1.cls)).map some = ([2175, 134, 2173, 1816, 2163, 131, 2161, 2175, 134, 2173, 1819, 1798, 2115, 120, 2113, 1817, 2179, 135, 2177, 1816, 2163, 131, 2161] : List Nat).map (fun i => lw_tbl[i]?) := by rfl
set_option maxRecDepth 100000 in
theorem zg_278_2 : (zl_278_2.flatMap (zz_wr zt_hh zp_P zt_cl zm_278.1.1.cls)).all goodWord = true := by decide +kernel
set_option maxRecDepth 100000 in
theorem zr_278_2 : (zl_278_2.flatMap (zz_wn zp_P zm_278.1.1.cls)).map some = ([] : List Nat).map (fun i => lw_tbl[i]?) := by rfl
set_option maxRecDepth 100000 in
theorem zs_278_2 : (zl_278_2.flatMap (zz_wn zp_P zm_278.1.1.cls)).all zz_isN = true := by decide +kernel
set_option maxRecDepth 100000 in
theorem zb_278_2 : zl_278_2.all (fun r => zz_wb zt_hh zp_P zt_cl zt_tf zt_fd zt_nf zm_278.1.1.cls zm_278.1.1.name r) = true := by decide +kernel
set_option maxRecDepth 100000 in
theorem zd_278_3 : ∀ r ∈ zl_278_3, decode zm_278.1.2.1 r.1 = .ok (r.2.1, r.2.2.1) := by decide +kernel
set_option maxRecDepth 100000 in
theorem zq_278_3 : (zl_278_3.flatMap (zz_wr zt_hh zp_P zt_cl zm_278.1.1.cls)).map some = ([2167, 132, 2165, 1816, 2163, 131, 2161] : List Nat).map (fun i => lw_tbl[i]?) := by rfl
set_option maxRecDepth 100000 in
theorem zg_278_3 : (zl_278_3.flatMap (zz_wr zt_hh zp_P zt_cl zm_278.1.1.cls)).all goodWord = true := by decide +kernel
set_option maxRecDepth 100000 in
theorem zr_278_3 : (zl_278_3.flatMap (zz_wn zp_P zm_278.1.1.cls)).map some = ([] : List Nat).map (fun i => lw_tbl[i]?) := by rfl
set_option maxRecDepth 100000 in
theorem zs_278_3 : (zl_278_3.flatMap (zz_wn zp_P zm_278.1.1.cls)).all zz_isN = true := by decide +kernel
set_option maxRecDepth 100000 in
theorem zb_278_3 : zl_278_3.all (fun r => zz_wb zt_hh zp_P zt_cl zt_tf zt_fd zt_nf zm_278.1.1.cls zm_278.1.1.name r) = true := by decide +kernel
set_option maxRecDepth 100000 in
theorem zy_278_0 : zl_278_0.all (fun r => zz_tb zt_hh zp_P zm_278 r) = true := by decide +kernel
set_option maxRecDepth 100000 in
theorem zy_278_1 : zl_278_1.all (fun r => zz_tb zt_hh zp_P zm_278 r) = true := by decide +kernel
set_option maxRecDepth 100000 in
theorem zy_278_2 : zl_278_2.all (fun r => zz_tb zt_hh zp_P zm_278 r) = true := by decide +kernel
set_option maxRecDepth 100000 in
theorem zy_278_3 : zl_278_3.all (fun r => zz_tb zt_hh zp_P zm_278 r) = true := by decide +kernel
theorem zw_278 : zz_okW zt_hh zp_P zt_cl zt_tf zt_fd zt_nf zt_T zt_N zm_278 := List.forall_mem_cons.mpr ⟨(zz_w_okL zd_278_0 zb_278_0 (zz_places goodWord zq_278_0 zg_278_0) (zz_places zz_isN zr_278_0 zs_278_0) zy_278_0), List.forall_mem_cons.mpr ⟨(zz_w_okL zd_278_1 zb_278_1 (zz_places goodWord zq_278_1 zg_278_1) (zz_places zz_isN zr_278_1 zs_278_1) zy_278_1), List.forall_mem_cons.mpr ⟨(zz_w_okL zd_278_2 zb_278_2 (zz_places goodWord zq_278_2 zg_278_2) (zz_places zz_isN zr_278_2 zs_278_2) zy_278_2), List.forall_mem_cons.mpr ⟨(zz_w_okL zd_278_3 zb_278_3 (zz_places goodWord zq_278_3 zg_278_3) (zz_places zz_isN zr_278_3 zs_278_3) zy_278_3), (fun _ h => absurd h List.not_mem_nil)⟩⟩⟩⟩
set_option maxRecDepth 100000 in
theorem zq_278 : [zz_cw zt_hh zm_278, Cond.initialized zm_278.1.1.cls].map some = ([2172, 227] : List Nat).map (fun i => lw_tbl[i]?) := by rfl
set_option maxRecDepth 100000 in
theorem zg_278 : [zz_cw zt_hh zm_278, Cond.initialized zm_278.1.1.cls].all goodWord = true := by decide +kernel
set_option maxRecDepth 100000 in
theorem zb_278 : (plainName zm_278.1.1.cls && (decide (zm_278.1.1.cls ≠ "java/lang/invoke/MethodHandle" ∧ zm_278.1.1.cls ≠ "java/lang/invoke/VarHandle") && decide (zm_278.1.2.2.1 ≤ 40))) = true := by decide +kernel
theorem zo_278 : zz_okM zt_hh zp_P zt_cl zt_tf zt_fd zt_nf zt_T zt_N zm_278 := zz_w_okM zw_278 zb_278 (zz_places goodWord zq_278 zg_278)
set_option maxRecDepth 100000 in
theorem zd_279_0 : ∀ r ∈ zl_279_0, decode zm_279.1.2.1 r.1 = .ok (r.2.1, r.2.2.1) := by decide +kernel
set_option maxRecDepth 100000 in
theorem zq_279_0 : (zl_279_0.flatMap (zz_wr zt_hh zp_P zt_cl zm_279.1.1.cls)).map some = ([1798, 2139, 126, 2137, 1797, 2127, 123, 2125, 2175, 134, 2173, 2187, 137, 2185] : List Nat).map (fun i => lw_tbl[i]?) := by rfl
set_option maxRecDepth 100000 in
theorem zg_279_0 : (zl_279_0.flatMap (zz_wr zt_hh zp_P zt_cl zm_279.1.1.cls)).all goodWord = true := by decide +kernel
set_option maxRecDepth 100000 in
theorem zr_279_0 : (zl_279_0.flatMap (zz_wn zp_P zm_279.1.1.cls)).map some = ([] : List Nat).map (fun i => lw_tbl[i]?) := by rfl
set_option maxRecDepth 100000 in
theorem zs_279_0 : (zl_279_0.flatMap (zz_wn zp_P zm_279.1.1.cls)).all zz_isN = true := by decide +kernel
set_option maxRecDepth 100000 in
theorem zb_279_0 : zl_279_0.all (fun r => zz_wb zt_hh zp_P zt_cl zt_tf zt_fd zt_nf zm_279.1.1.cls zm_279.1.1.name r) = true := by decide +kernel
set_option maxRecDepth 100000 in
theorem zd_279_1 : ∀ r ∈ zl_279_1, decode zm_279.1.2.1 r.1 = .ok (r.2.1, r.2.2.1) := by decide +kernel
set_option maxRecDepth 100000 in
theorem zq_279_1 : (zl_279_1.flatMap (zz_wr zt_hh zp_P zt_cl zm_279.1.1.cls)).map some = ([2191, 138, 2189, 2159, 130, 2157, 2175, 134, 2173, 2234, 148, 2232, 2123, 122, 2121, 2163, 131, 2161, 2175, 134, 2173] : List Nat).map (fun i => lw_tbl[i]?) := by rfl
set_option maxRecDepth 100000 in
theorem zg_279_1 : (zl_279_1.flatMap (zz_wr zt_hh zp_P zt_cl zm_279.1.1.cls)).all goodWord = true := by decide +kernel
set_option maxRecDepth 100000 in
theorem zr_279_1 : (zl_279_1.flatMap (zz_wn zp_P zm_279.1.1.cls)).map some = ([] : List Nat).map (fun i => lw_tbl[i]?) := by rfl
set_option maxRecDepth 100000 in
theorem zs_279_1 : (zl_279_1.flatMap (zz_wn zp_P zm_279.1.1.cls)).all zz_isN = true := by decide +kernel
set_option maxRecDepth 100000 in
theorem zb_279_1 : zl_279_1.all (fun r => zz_wb zt_hh zp_P zt_cl zt_tf zt_fd zt_nf zm_279.1.1.cls zm_279.1.1.name r) = true := by decide +kernel
set_option maxRecDepth 100000 in
theorem zd_279_2 : ∀ r ∈ zl_279_2, decode zm_279.1.2.1 r.1 = .ok (r.2.1, r.2.2.1) := by decide +kernel
set_option maxRecDepth 100000 in
theorem zq_279_2 : (zl_279_2.flatMap (zz_wr zt_hh zp_P zt_cl zm_279.1.1.cls)).map some = ([2151, 128, 2149, 2191, 138, 2189, 2159, 130, 2157, 2175, 134, 2173, 2167, 132, 2165, 2123, 122, 2121, 2179, 135, 2177, 2115, 120, 2113, 2191, 138, 2189] : List Nat).map (fun i => lw_tbl[i]?) := by rfl
set_option maxRecDepth 100000 in
theorem zg_279_2 : (zl_279_2.flatMap (zz_wr zt_hh zp_P zt_cl zm_279.1.1.cls)).all goodWord = true := by decide +kernel
set_option maxRecDepth 100000 in
theorem zr_279_2 : (zl_279_2.flatMap (zz_wn zp_P zm_279.1.1.cls)).map some = ([] : List Nat).map (fun i => lw_tbl[i]?) := by rfl
set_option maxRecDepth 100000 in
theorem zs_279_2 : (zl_279_2.flatMap (zz_wn zp_P zm_279.1.1.cls)).all zz_isN = true := by decide +kernel
set_option maxRecDepth 100000 in
theorem zb_279_2 : zl_279_2.all (fun r => zz_wb zt_hh zp_P zt_cl zt_tf zt_fd zt_nf zm_279.1.1.cls zm_279.1.1.name r) = true := by decide +kernel
set_option maxRecDepth 100000 in
theorem zd_279_3 : ∀ r ∈ zl_279_3, decode zm_279.1.2.1 r.1 = .ok (r.2.1, r.2.2.1) := by decide +kernel
set_option maxRecDepth 100000 in
theorem zq_279_3 : (zl_279_3.flatMap (zz_wr zt_hh zp_P zt_cl zm_279.1.1.cls)).map some = ([2175, 134, 2173, 2175, 134, 2173, 2167, 132, 2165, 2123, 122, 2121, 2175, 134, 2173, 2167, 132, 2165, 2123, 122, 2121] : List Nat).map (fun i => lw_tbl[i]?) := by rfl
set_option maxRecDepth 100000 in
theorem zg_279_3 : (zl_279_3.flatMap (zz_wr zt_hh zp_P zt_cl zm_279.1.1.cls)).all goodWord = true := by decide +kernel
set_option maxRecDepth 100000 in
theorem zr_279_3 : (zl_279_3.flatMap (zz_wn zp_P zm_279.1.1.cls)).map some = ([] : List Nat).map (fun i => lw_tbl[i]?) := by rfl
set_option maxRecDepth 100000 in
theorem zs_279_3 : (zl_279_3.flatMap (zz_wn zp_P zm_279.1.1.cls)).all zz_isN = true := by decide +kernel
set_option maxRecDepth 100000 in
theorem zb_279_3 : zl_279_3.all (fun r => zz_wb zt_hh zp_P zt_cl zt_tf zt_fd zt_nf zm_279.1.1.cls zm_279.1.1.name r) = true := by decide +kernel
set_option maxRecDepth 100000 in
theorem zd_279_4 : ∀ r ∈ zl_279_4, decode zm_279.1.2.1 r.1 = .ok (r.2.1, r.2.2.1) := by decide +kernel
set_option maxRecDepth 100000 in
theorem zq_279_4 : (zl_279_4.flatMap (zz_wr zt_hh zp_P zt_cl zm_279.1.1.cls)).map some = ([2191, 138, 2189, 2159, 130, 2157, 2175, 134, 2173] : List Nat).map (fun i => lw_tbl[i]?) := by rfl
set_option maxRecDepth 100000 in
theorem zg_279_4 : (zl_279_4.flatMap (zz_wr zt_hh zp_P zt_cl zm_279.1.1.cls)).all goodWord = true := by decide +kernel
set_option maxRecDepth 100000 in
theorem zr_279_4 : (zl_279_4.flatMap (zz_wn zp_P zm_279.1.1.cls)).map some = ([] : List Nat).map (fun i => lw_tbl[i]?) := by rfl
set_option maxRecDepth 100000 in
theorem zs_279_4 : (zl_279_4.flatMap (zz_wn zp_P zm_279.1.1.cls)).all zz_isN = true := by decide +kernel
set_option maxRecDepth 100000 in
theorem zb_279_4 : zl_279_4.all (fun r => zz_wb zt_hh zp_P zt_cl zt_tf zt_fd zt_nf zm_279.1.1.cls zm_279.1.1.name r) = true := by decide +kernel
set_option maxRecDepth 100000 in
theorem zy_279_0 : zl_279_0.all (fun r => zz_tb zt_hh zp_P zm_279 r) = true := by decide +kernel
set_option maxRecDepth 100000 in
theorem zy_279_1 : zl_279_1.all (fun r => zz_tb zt_hh zp_P zm_279 r) = true := by decide +kernel
set_option maxRecDepth 100000 in
theorem zy_279_2 : zl_279_2.all (fun r => zz_tb zt_hh zp_P zm_279 r) = true := by decide +kernel
set_option maxRecDepth 100000 in
theorem zy_279_3 : zl_279_3.all (fun r => zz_tb zt_hh zp_P zm_279 r) = true := by decide +kernel
set_option maxRecDepth 100000 in
theorem zy_279_4 : zl_279_4.all (fun r => zz_tb zt_hh zp_P zm_279 r) = true := by decide +kernel
theorem zw_279 : zz_okW zt_hh zp_P zt_cl zt_tf zt_fd zt_nf zt_T zt_N zm_279 := List.forall_mem_cons.mpr ⟨(zz_w_okL zd_279_0 zb_279_0 (zz_places goodWord zq_279_0 zg_279_0) (zz_places zz_isN zr_279_0 zs_279_0) zy_279_0), List.forall_mem_cons.mpr ⟨(zz_w_okL zd_279_1 zb_279_1 (zz_places goodWord zq_279_1 zg_279_1) (zz_places zz_isN zr_279_1 zs_279_1) zy_279_1), List.forall_mem_cons.mpr ⟨(zz_w_okL zd_279_2 zb_279_2 (zz_places goodWord zq_279_2 zg_279_2) (zz_places zz_isN zr_279_2 zs_279_2) zy_279_2), List.forall_mem_cons.mpr ⟨(zz_w_okL zd_279_3 zb_279_3 (zz_places goodWord zq_279_3 zg_279_3) (zz_places zz_isN zr_279_3 zs_279_3) zy_279_3), List.forall_mem_cons.mpr ⟨(zz_w_okL zd_279_4 zb_279_4 (zz_places goodWord zq_279_4 zg_279_4) (zz_places zz_isN zr_279_4 zs_279_4) zy_279_4), (fun _ h => absurd h List.not_mem_nil)⟩⟩⟩⟩⟩
set_option maxRecDepth 100000 in
theorem zq_279 : [zz_cw zt_hh zm_279, Cond.initialized zm_279.1.1.cls].map some = ([2184, 227] : List Nat).map (fun i => lw_tbl[i]?) := by rfl
set_option maxRecDepth 100000 in
theorem zg_279 : [zz_cw zt_hh zm_279, Cond.initialized zm_279.1.1.cls].all goodWord = true := by decide +kernel
set_option maxRecDepth 100000 in
theorem zb_279 : (plainName zm_279.1.1.cls && (decide (zm_279.1.1.cls ≠ "java/lang/invoke/MethodHandle" ∧ zm_279.1.1.cls ≠ "java/lang/invoke/VarHandle") && decide (zm_279.1.2.2.1 ≤ 40))) = true := by decide +kernel
theorem zo_279 : zz_okM zt_hh zp_P zt_cl zt_tf zt_fd zt_nf zt_T zt_N zm_279 := zz_w_okM zw_279 zb_279 (zz_places goodWord zq_279 zg_279)
set_option maxRecDepth 100000 in
theorem zd_280_0 : ∀ r ∈ zl_280_0, decode zm_280.1.2.1 r.1 = .ok (r.2.1, r.2.2.1) := by decide +kernel
set_option maxRecDepth 100000 in
theorem zq_280_0 : (zl_280_0.flatMap (zz_wr zt_hh zp_P zt_cl zm_280.1.1.cls)).map some = ([1798, 2179, 135, 2177, 1801, 2155, 129, 2153, 2159, 130, 2157, 2191, 138, 2189, 2159, 130, 2157, 2175, 134, 2173, 1798, 2151, 128, 2149] : List Nat).map (fun i => lw_tbl[i]?) := by rfl
set_option maxRecDepth 100000 in
theorem zg_280_0 : (zl_280_0.flatMap (zz_wr zt_hh zp_P zt_cl zm_280.1.1.cls)).all goodWord = true := by decide +kernel
set_option maxRecDepth 100000 in
theorem zr_280_0 : (zl_280_0.flatMap (zz_wn zp_P zm_280.1.1.cls)).map some = ([] : List Nat).map (fun i => lw_tbl[i]?) := by rfl
set_option maxRecDepth 100000 in
theorem zs_280_0 : (zl_280_0.flatMap (zz_wn zp_P zm_280.1.1.cls)).all zz_isN = true := by decide +kernel
set_option maxRecDepth 100000 in
theorem zb_280_0 : zl_280_0.all (fun r => zz_wb zt_hh zp_P zt_cl zt_tf zt_fd zt_nf zm_280.1.1.cls zm_280.1.1.name r) = true := by decide +kernel
set_option maxRecDepth 100000 in
theorem zd_280_1 : ∀ r ∈ zl_280_1, decode zm_280.1.2.1 r.1 = .ok (r.2.1, r.2.2.1) := by decide +kernel
set_option maxRecDepth 100000 in
theorem zq_280_1 : (zl_280_1.flatMap (zz_wr zt_hh zp_P zt_cl zm_280.1.1.cls)).map some = ([2191, 138, 2189, 2159, 130, 2157, 1801, 2155, 129, 2153, 1798, 2151, 128, 2149, 2191, 138, 2189, 2159, 130, 2157, 2159, 130, 2157, 2191, 138, 2189, 2159, 130, 2157, 2175, 134, 2173] : List Nat).map (fun i => lw_tbl[i]?) := by rfl
set_option maxRecDepth 100000 in
theorem zg_280_1 : (zl_280_1.flatMap (zz_wr zt_hh zp_P zt_cl zm_280.1.1.cls)).all goodWord = true := by decide +kernel
set_option maxRecDepth 100000 in
theorem zr_280_1 : (zl_280_1.flatMap (zz_wn zp_P zm_280.1.1.cls)).map some = ([] : List Nat).map (fun i => lw_tbl[i]?) := by rfl
set_option maxRecDepth 100000 in
theorem zs_280_1 : (zl_280_1.flatMap (zz_wn zp_P zm_280.1.1.cls)).all zz_isN = true := by decide +kernel
set_option maxRecDepth 100000 in
theorem zb_280_1 : zl_280_1.all (fun r => zz_wb zt_hh zp_P zt_cl zt_tf zt_fd zt_nf zm_280.1.1.cls zm_280.1.1.name r) = true := by decide +kernel
set_option maxRecDepth 100000 in
theorem zd_280_2 : ∀ r ∈ zl_280_2, decode zm_280.1.2.1 r.1 = .ok (r.2.1, r.2.2.1) := by decide +kernel
set_option maxRecDepth 100000 in
theorem zq_280_2 : (zl_280_2.flatMap (zz_wr zt_hh zp_P zt_cl zm_280.1.1.cls)).map some = ([1818] : List Nat).map (fun i => lw_tbl[i]?) := by rfl
set_option maxRecDepth 100000 in
theorem zg_280_2 : (zl_280_2.flatMap (zz_wr zt_hh zp_P zt_cl zm_280.1.1.cls)).all goodWord = true := by decide +kernel
set_option maxRecDepth 100000 in
theorem zr_280_2 : (zl_280_2.flatMap (zz_wn zp_P zm_280.1.1.cls)).map some = ([] : List Nat).map (fun i => lw_tbl[i]?) := by rfl
set_option maxRecDepth 100000 in
theorem zs_280_2 : (zl_280_2.flatMap (zz_wn zp_P zm_280.1.1.cls)).all zz_isN = true := by decide +kernel
set_option maxRecDepth 100000 in
theorem zb_280_2 : zl_280_2.all (fun r => zz_wb zt_hh zp_P zt_cl zt_tf zt_fd zt_nf zm_280.1.1.cls zm_280.1.1.name r) = true := by decide +kernel
set_option maxRecDepth 100000 in
theorem zy_280_0 : zl_280_0.all (fun r => zz_tb zt_hh zp_P zm_280 r) = true := by decide +kernel
set_option maxRecDepth 100000 in
theorem zy_280_1 : zl_280_1.all (fun r => zz_tb zt_hh zp_P zm_280 r) = true := by decide +kernel
set_option maxRecDepth 100000 in
theorem zy_280_2 : zl_280_2.all (fun r => zz_tb zt_hh zp_P zm_280 r) = true := by decide +kernel
theorem zw_280 : zz_okW zt_hh zp_P zt_cl zt_tf zt_fd zt_nf zt_T zt_N zm_280 := List.forall_mem_cons.mpr ⟨(zz_w_okL zd_280_0 zb_280_0 (zz_places goodWord zq_280_0 zg_280_0) (zz_places zz_isN zr_280_0 zs_280_0) zy_280_0), List.forall_mem_cons.mpr ⟨(zz_w_okL zd_280_1 zb_280_1 (zz_places goodWord zq_280_1 zg_280_1) (zz_places zz_isN zr_280_1 zs_280_1) zy_280_1), List.forall_mem_cons.mpr ⟨(zz_w_okL zd_280_2 zb_280_2 (zz_places goodWord zq_280_2 zg_280_2) (zz_places zz_isN zr_280_2 zs_280_2) zy_280_2), (fun _ h => absurd h List.not_mem_nil)⟩⟩⟩
set_option maxRecDepth 100000 in
theorem zq_280 : [zz_cw zt_hh zm_280, Cond.initialized zm_280.1.1.cls].map some = ([2235, 227] : List Nat).map (fun i => lw_tbl[i]?) := by rfl
set_option maxRecDepth 100000 in
theorem zg_280 : [zz_cw zt_hh zm_280, Cond.initialized zm_280.1.1.cls].all goodWord = true := by decide +kernel
set_option maxRecDepth 100000 in
theorem zb_280 : (plainName zm_280.1.1.cls && (decide (zm_280.1.1.cls ≠ "java/lang/invoke/MethodHandle" ∧ zm_280.1.1.cls ≠ "java/lang/invoke/VarHandle") && decide (zm_280.1.2.2.1 ≤ 40))) = true := by decide +kernel
theorem zo_280 : zz_okM zt_hh zp_P zt_cl zt_tf zt_fd zt_nf zt_T zt_N zm_280 := zz_w_okM zw_280 zb_280 (zz_places goodWord zq_280 zg_280)
set_option maxRecDepth 100000 in
theorem zd_281_0 : ∀ r ∈ zl_281_0, decode zm_281.1.2.1 r.1 = .ok (r.2.1, r.2.2.1) := by decide +kernel
set_option maxRecDepth 100000 in
theorem zq_281_0 : (zl_281_0.flatMap (zz_wr zt_hh zp_P zt_cl zm_281.1.1.cls)).map some = ([1830, 1836, 1831, 1836, 1832, 1836, 1833, 1836, 1836, 1836] : List Nat).map (fun i => lw_tbl[i]?) := by rfl
set_option maxRecDepth 100000 in
theorem zg_281_0 : (zl_281_0.flatMap (zz_wr zt_hh zp_P zt_cl zm_281.1.1.cls)).all goodWord = true := by decide +kernel
set_option maxRecDepth 100000 in
theorem zr_281_0 : (zl_281_0.flatMap (zz_wn zp_P zm_281.1.1.cls)).map some = ([] : List Nat).map (fun i => lw_tbl[i]?) := by rfl
set_option maxRecDepth 100000 in
theorem zs_281_0 : (zl_281_0.flatMap (zz_wn zp_P zm_281.1.1.cls)).all zz_isN = true := by decide +kernel
set_option maxRecDepth 100000 in
theorem zb_281_0 : zl_281_0.all (fun r => zz_wb zt_hh zp_P zt_cl zt_tf zt_fd zt_nf zm_281.1.1.cls zm_281.1.1.name r) = true := by decide +kernel
set_option maxRecDepth 100000 in
theorem zy_281_0 : zl_281_0.all (fun r => zz_tb zt_hh zp_P zm_281 r) = true := by decide +kernel
theorem zw_281 : zz_okW zt_hh zp_P zt_cl zt_tf zt_fd zt_nf zt_T zt_N zm_281 := List.forall_mem_cons.mpr ⟨(zz_w_okL zd_281_0 zb_281_0 (zz_places goodWord zq_281_0 zg_281_0) (zz_places zz_isN zr_281_0 zs_281_0) zy_281_0), (fun _ h => absurd h List.not_mem_nil)⟩
set_option maxRecDepth 100000 in
theorem zq_281 : [zz_cw zt_hh zm_281, Cond.initialized zm_281.1.1.cls].map some = ([2204, 227] : List Nat).map (fun i => lw_tbl[i]?) := by rfl
set_option maxRecDepth 100000 in
theorem zg_281 : [zz_cw zt_hh zm_281, Cond.initialized zm_281.1.1.cls].all goodWord = true := by decide +kernel
set_option maxRecDepth 100000 in
theorem zb_281 : (plainName zm_281.1.1.cls && (decide (zm_281.1.1.cls ≠ "java/lang/invoke/MethodHandle" ∧ zm_281.1.1.cls ≠ "java/lang/invoke/VarHandle") && decide (zm_281.1.2.2.1 ≤ 40))) = true := by decide +kernel
theorem zo_281 : zz_okM zt_hh zp_P zt_cl zt_tf zt_fd zt_nf zt_T zt_N zm_281 := zz_w_okM zw_281 zb_281 (zz_places goodWord zq_281 zg_281)
set_option maxRecDepth 100000 in
theorem zd_282_0 : ∀ r ∈ zl_282_0, decode zm_282.1.2.1 r.1 = .ok (r.2.1, r.2.2.1) := by decide +kernel
set_option maxRecDepth 100000 in
theorem zq_282_0 : (zl_282_0.flatMap (zz_wr zt_hh zp_P zt_cl zm_282.1.1.cls)).map some = ([] : List Nat).map (fun i => lw_tbl[i]?) := by rfl
set_option maxRecDepth 100000 in
theorem zg_282_0 : (zl_282_0.flatMap (zz_wr zt_hh zp_P zt_cl zm_282.1.1.cls)).all goodWord = true := by decide +kernel
set_option maxRecDepth 100000 in
theorem zr_282_0 : (zl_282_0.flatMap (zz_wn zp_P zm_282.1.1.cls)).map some = ([] : List Nat).map (fun i => lw_tbl[i]?) := by rfl
set_option maxRecDepth 100000 in
theorem zs_282_0 : (zl_282_0.flatMap (zz_wn zp_P zm_282.1.1.cls)).all zz_isN = true := by decide +kernel
set_option maxRecDepth 100000 in
theorem zb_282_0 : zl_282_0.all (fun r => zz_wb zt_hh zp_P zt_cl zt_tf zt_fd zt_nf zm_282.1.1.cls zm_282.1.1.name r) = true := by decide +kernel
set_option maxRecDepth 100000 in
theorem zy_282_0 : zl_282_0.all (fun r => zz_tb zt_hh zp_P zm_282 r) = true := by decide +kernel
theorem zw_282 : zz_okW zt_hh zp_P zt_cl zt_tf zt_fd zt_nf zt_T zt_N zm_282 := List.forall_mem_cons.mpr ⟨(zz_w_okL zd_282_0 zb_282_0 (zz_places goodWord zq_282_0 zg_282_0) (zz_places zz_isN zr_282_0 zs_282_0) zy_282_0), (fun _ h => absurd h List.not_mem_nil)⟩
set_option maxRecDepth 100000 in
theorem zq_282 : [zz_cw zt_hh zm_282, Cond.initialized zm_282.1.1.cls].map some = ([2223, 227] : List Nat).map (fun i => lw_tbl[i]?) := by rfl
set_option maxRecDepth 100000 in
theorem zg_282 : [zz_cw zt_hh zm_282, Cond.initialized zm_282.1.1.cls].all goodWord = true := by decide +kernel
set_option maxRecDepth 100000 in
theorem zb_282 : (plainName zm_282.1.1.cls && (decide (zm_282.1.1.cls ≠ "java/lang/invoke/MethodHandle" ∧ zm_282.1.1.cls ≠ "java/lang/invoke/VarHandle") && decide (zm_282.1.2.2.1 ≤ 40))) = true := by decide +kernel
theorem zo_282 : zz_okM zt_hh zp_P zt_cl zt_tf zt_fd zt_nf zt_T zt_N zm_282 := zz_w_okM zw_282 zb_282 (zz_places goodWord zq_282 zg_282)
set_option maxRecDepth 100000 in
theorem zd_283_0 : ∀ r ∈ zl_283_0, decode zm_283.1.2.1 r.1 = .ok (r.2.1, r.2.2.1) := by decide +kernel
set_option maxRecDepth 100000 in
theorem zq_283_0 : (zl_283_0.flatMap (zz_wr zt_hh zp_P zt_cl zm_283.1.1.cls)).map some = ([1836, 1830, 1836] : List Nat).map (fun i => lw_tbl[i]?) := by rfl
set_option maxRecDepth 100000 in
theorem zg_283_0 : (zl_283_0.flatMap (zz_wr zt_hh zp_P zt_cl zm_283.1.1.cls)).all goodWord = true := by decide +kernel
set_option maxRecDepth 100000 in
theorem zr_283_0 : (zl_283_0.flatMap (zz_wn zp_P zm_283.1.1.cls)).map some = ([] : List Nat).map (fun i => lw_tbl[i]?) := by rfl
set_option maxRecDepth 100000 in
theorem zs_283_0 : (zl_283_0.flatMap (zz_wn zp_P zm_283.1.1.cls)).all zz_isN = true := by decide +kernel
set_option maxRecDepth 100000 in
theorem zb_283_0 : zl_283_0.all (fun r => zz_wb zt_hh zp_P zt_cl zt_tf zt_fd zt_nf zm_283.1.1.cls zm_283.1.1.name r) = true := by decide +kernel
set_option maxRecDepth 100000 in
theorem zy_283_0 : zl_283_0.all (fun r => zz_tb zt_hh zp_P zm_283 r) = true := by decide +kernel
theorem zw_283 : zz_okW zt_hh zp_P zt_cl zt_tf zt_fd zt_nf zt_T zt_N zm_283 := List.forall_mem_cons.mpr ⟨(zz_w_okL zd_283_0 zb_283_0 (zz_places goodWord zq_283_0 zg_283_0) (zz_places zz_isN zr_283_0 zs_283_0) zy_283_0), (fun _ h => absurd h List.not_mem_nil)⟩
set_option maxRecDepth 100000 in
theorem zq_283 : [zz_cw zt_hh zm_283, Cond.initialized zm_283.1.1.cls].map some = ([2200, 227] : List Nat).map (fun i => lw_tbl[i]?) := by rfl
set_option maxRecDepth 100000 in
theorem zg_283 : [zz_cw zt_hh zm_283, Cond.initialized zm_283.1.1.cls].all goodWord = true := by decide +kernel
set_option maxRecDepth 100000 in
theorem zb_283 : (plainName zm_283.1.1.cls && (decide (zm_283.1.1.cls ≠ "java/lang/invoke/MethodHandle" ∧ zm_283.1.1.cls ≠ "java/lang/invoke/VarHandle") && decide (zm_283.1.2.2.1 ≤ 40))) = true := by decide +kernel
theorem zo_283 : zz_okM zt_hh zp_P zt_cl zt_tf zt_fd zt_nf zt_T zt_N zm_283 := zz_w_okM zw_283 zb_283 (zz_places goodWord zq_283 zg_283)
set_option maxRecDepth 100000 in
theorem zd_284_0 : ∀ r ∈ zl_284_0, decode zm_284.1.2.1 r.1 = .ok (r.2.1, r.2.2.1) := by decide +kernel
set_option maxRecDepth 100000 in
theorem zq_284_0 : (zl_284_0.flatMap (zz_wr zt_hh zp_P zt_cl zm_284.1.1.cls)).map some = ([2199, 140, 2197, 1831, 1836, 2222, 2221, 1836, 1836, 1831, 1836, 1833, 1836, 2175, 134, 2173] : List Nat).map (fun i => lw_tbl[i]?) := by rfl
set_option maxRecDepth 100000 in
theorem zg_284_0 : (zl_284_0.flatMap (zz_wr zt_hh zp_P zt_cl zm_284.1.1.cls)).all goodWord = true := by decide +kernel
set_option maxRecDepth 100000 in
theorem zr_284_0 : (zl_284_0.flatMap (zz_wn zp_P zm_284.1.1.cls)).map some = ([] : List Nat).map (fun i => lw_tbl[i]?) := by rfl
set_option maxRecDepth 100000 in
theorem zs_284_0 : (zl_284_0.flatMap (zz_wn zp_P zm_284.1.1.cls)).all zz_isN = true := by decide +kernel
set_option maxRecDepth 100000 in
theorem zb_284_0 : zl_284_0.all (fun r => zz_wb zt_hh zp_P zt_cl zt_tf zt_fd zt_nf zm_284.1.1.cls zm_284.1.1.name r) = true := by decide +kernel
set_option maxRecDepth 100000 in
theorem zy_284_0 : zl_284_0.all (fun r => zz_tb zt_hh zp_P zm_284 r) = true := by decide +kernel
theorem zw_284 : zz_okW zt_hh zp_P zt_cl zt_tf zt_fd zt_nf zt_T zt_N zm_284 := List.forall_mem_cons.mpr ⟨(zz_w_okL zd_284_0 zb_284_0 (zz_places goodWord zq_284_0 zg_284_0) (zz_places zz_isN zr_284_0 zs_284_0) zy_284_0), (fun _ h => absurd h List.not_mem_nil)⟩
set_option maxRecDepth 100000 in
theorem zq_284 : [zz_cw zt_hh zm_284, Cond.initialized zm_284.1.1.cls].map some = ([2227, 227] : List Nat).map (fun i => lw_tbl[i]?) := by rfl
set_option maxRecDepth 100000 in
theorem zg_284 : [zz_cw zt_hh zm_284, Cond.initialized zm_284.1.1.cls].all goodWord = true := by decide +kernel
set_option maxRecDepth 100000 in
theorem zb_284 : (plainName zm_284.1.1.cls && (decide (zm_284.1.1.cls ≠ "java/lang/invoke/MethodHandle" ∧ zm_284.1.1.cls ≠ "java/lang/invoke/VarHandle") && decide (zm_284.1.2.2.1 ≤ 40))) = true := by decide +kernel
theorem zo_284 : zz_okM zt_hh zp_P zt_cl zt_tf zt_fd zt_nf zt_T zt_N zm_284 := zz_w_okM zw_284 zb_284 (zz_places goodWord zq_284 zg_284)
set_option maxRecDepth 100000 in
theorem zd_285_0 : ∀ r ∈ zl_285_0, decode zm_285.1.2.1 r.1 = .ok (r.2.1, r.2.2.1) := by decide +kernel
set_option maxRecDepth 100000 in
theorem zq_285_0 : (zl_285_0.flatMap (zz_wr zt_hh zp_P zt_cl zm_285.1.1.cls)).map some = ([1836, 1801, 2195, 139, 2193, 1836, 2155, 129, 2153, 1798, 2151, 128, 2149, 2203, 141, 2201] : List Nat).map (fun i => lw_tbl[i]?) := by rfl
set_option maxRecDepth 100000 in
theorem zg_285_0 : (zl_285_0.flatMap (zz_wr zt_hh zp_P zt_cl zm_285.1.1.cls)).all goodWord = true := by decide +kernel
set_option maxRecDepth 100000 in
theorem zr_285_0 : (zl_285_0.flatMap (zz_wn zp_P zm_285.1.1.cls)).map some = ([] : List Nat).map (fun i => lw_tbl[i]?) := by rfl
set_option maxRecDepth 100000 in
theorem zs_285_0 : (zl_285_0.flatMap (zz_wn zp_P zm_285.1.1.cls)).all zz_isN = true := by decide +kernel
set_option maxRecDepth 100000 in
theorem zb_285_0 : zl_285_0.all (fun r => zz_wb zt_hh zp_P zt_cl zt_tf zt_fd zt_nf zm_285.1.1.cls zm_285.1.1.name r) = true := by decide +kernel
set_option maxRecDepth 100000 in
theorem zd_285_1 : ∀ r ∈ zl_285_1, decode zm_285.1.2.1 r.1 = .ok (r.2.1, r.2.2.1) := by decide +kernel
set_option maxRecDepth 100000 in
theorem zq_285_1 : (zl_285_1.flatMap (zz_wr zt_hh zp_P zt_cl zm_285.1.1.cls)).map some = ([2199, 140, 2197, 1836, 1836, 1831, 1836, 1833, 1836, 2175, 134, 2173, 1797, 1799, 2222, 2221] : List Nat).map (fun i => lw_tbl[i]?) := by rfl
set_option maxRecDepth 100000 in
theorem zg_285_1 : (zl_285_1.flatMap (zz_wr zt_hh zp_P zt_cl zm_285.1.1.cls)).all goodWord = true := by decide +kernel
set_option maxRecDepth 100000 in
theorem zr_285_1 : (zl_285_1.flatMap (zz_wn zp_P zm_285.1.1.cls)).map some = ([] : List Nat).map (fun i => lw_tbl[i]?) := by rfl
set_option maxRecDepth 100000 in
theorem zs_285_1 : (zl_285_1.flatMap (zz_wn zp_P zm_285.1.1.cls)).all zz_isN = true := by decide +kernel
set_option maxRecDepth 100000 in
theorem zb_285_1 : zl_285_1.all (fun r => zz_wb zt_hh zp_P zt_cl zt_tf zt_fd zt_nf zm_285.1.1.cls zm_285.1.1.name r) = true := by decide +kernel
set_option maxRecDepth 100000 in
theorem zd_285_2 : ∀ r ∈ zl_285_2, decode zm_285.1.2.1 r.1 = .ok (r.2.1, r.2.2.1) := by decide +kernel
set_option maxRecDepth 100000 in
theorem zq_285_2 : (zl_285_2.flatMap (zz_wr zt_hh zp_P zt_cl zm_285.1.1.cls)).map some = ([2226, 146, 2224, 2199, 140, 2197, 1831, 1836, 2222, 2221, 1799, 1798, 2203, 141, 2201, 2123, 122, 2121, 2226, 146, 2224] : List Nat).map (fun i => lw_tbl[i]?) := by rfl
set_option maxRecDepth 100000 in
theorem zg_285_2 : (zl_285_2.flatMap (zz_wr zt_hh zp_P zt_cl zm_285.1.1.cls)).all goodWord = true := by decide +kernel
set_option maxRecDepth 100000 in
theorem zr_285_2 : (zl_285_2.flatMap (zz_wn zp_P zm_285.1.1.cls)).map some = ([] : List Nat).map (fun i => lw_tbl[i]?) := by rfl
set_option maxRecDepth 100000 in
theorem zs_285_2 : (zl_285_2.flatMap (zz_wn zp_P zm_285.1.1.cls)).all zz_isN = true := by decide +kernel
set_option maxRecDepth 100000 in
theorem zb_285_2 : zl_285_2.all (fun r => zz_wb zt_hh zp_P zt_cl zt_tf zt_fd zt_nf zm_285.1.1.cls zm_285.1.1.name r) = true := by decide +kernel
set_option maxRecDepth 100000 in
theorem zd_285_3 : ∀ r ∈ zl_285_3, decode zm_285.1.2.1 r.1 = .ok (r.2.1, r.2.2.1) := by decide +kernel
set_option maxRecDepth 100000 in
theorem zq_285_3 : (zl_285_3.flatMap (zz_wr zt_hh zp_P zt_cl zm_285.1.1.cls)).map some = ([1836, 2230, 147, 2228] : List Nat).map (fun i => lw_tbl[i]?) := by rfl
set_option maxRecDepth 100000 in
theorem zg_285_3 : (zl_285_3.flatMap (zz_wr zt_hh zp_P zt_cl zm_285.1.1.cls)).all goodWord = true := by decide +kernel
set_option maxRecDepth 100000 in
theorem zr_285_3 : (zl_285_3.flatMap (zz_wn zp_P zm_285.1.1.cls)).map some = ([] : List Nat).map (fun i => lw_tbl[i]?) := by rfl
set_option maxRecDepth 100000 in
theorem zs_285_3 : (zl_285_3.flatMap (zz_wn zp_P zm_285.1.1.cls)).all zz_isN = true := by decide +kernel
set_option maxRecDepth 100000 in
theorem zb_285_3 : zl_285_3.all (fun r => zz_wb zt_hh zp_P zt_cl zt_tf zt_fd zt_nf zm_285.1.1.cls zm_285.1.1.name r) = true := by decide +kernel
set_option maxRecDepth 100000 in
theorem zy_285_0 : zl_285_0.all (fun r => zz_tb zt_hh zp_P zm_285 r) = true := by decide +kernel
set_option maxRecDepth 100000 in
theorem zy_285_1 : zl_285_1.all (fun r => zz_tb zt_hh zp_P zm_285 r) = true := by decide +kernel
set_option maxRecDepth 100000 in
theorem zy_285_2 : zl_285_2.all (fun r => zz_tb zt_hh zp_P zm_285 r) = true := by decide +kernel
set_option maxRecDepth 100000 in
theorem zy_285_3 : zl_285_3.all (fun r => zz_tb zt_hh zp_P zm_285 r) = true := by decide +kernel
theorem zw_285 : zz_okW zt_hh zp_P zt_cl zt_tf zt_fd zt_nf zt_T zt_N zm_285 := List.forall_mem_cons.mpr ⟨(zz_w_okL zd_285_0 zb_285_0 (zz_places goodWord zq_285_0 zg_285_0) (zz_places zz_isN zr_285_0 zs_285_0) zy_285_0), List.forall_mem_cons.mpr ⟨(zz_w_okL zd_285_1 zb_285_1 (zz_places goodWord zq_285_1 zg_285_1) (zz_places zz_isN zr_285_1 zs_285_1) zy_285_1), List.forall_mem_cons.mpr ⟨(zz_w_okL zd_285_2 zb_285_2 (zz_places goodWord zq_285_2 zg_285_2) (zz_places zz_isN zr_285_2 zs_285_2) zy_285_2), List.forall_mem_cons.mpr ⟨(zz_w_okL zd_285_3 zb_285_3 (zz_places goodWord zq_285_3 zg_285_3) (zz_places zz_isN zr_285_3 zs_285_3) zy_285_3), (fun _ h => absurd h List.not_mem_nil)⟩⟩⟩⟩
set_option maxRecDepth 100000 in
theorem zq_285 : [zz_cw zt_hh zm_285, Cond.initialized zm_285.1.1.cls].map some = ([2192, 227] : List Nat).map (fun i => lw_tbl[i]?) := by rfl
set_option maxRecDepth 100000 in
theorem zg_285 : [zz_cw zt_hh zm_285, Cond.initialized zm_285.1.1.cls].all goodWord = true := by decide +kernel
set_option maxRecDepth 100000 in
theorem zb_285 : (plainName zm_285.1.1.cls && (decide (zm_285.1.1.cls ≠ "java/lang/invoke/MethodHandle" ∧ zm_285.1.1.cls ≠ "java/lang/invoke/VarHandle") && decide (zm_285.1.2.2.1 ≤ 40))) = true := by decide +kernel
theorem zo_285 : zz_okM zt_hh zp_P zt_cl zt_tf zt_fd zt_nf zt_T zt_N zm_285 := zz_w_okM zw_285 zb_285 (zz_places goodWord zq_285 zg_285)
set_option maxRecDepth 100000 in
theorem zd_286_0 : ∀ r ∈ zl_286_0, decode zm_286.1.2.1 r.1 = .ok (r.2.1, r.2.2.1) := by decide +kernel
set_option maxRecDepth 100000 in
theorem zq_286_0 : (zl_286_0.flatMap (zz_wr zt_hh zp_P zt_cl zm_286.1.1.cls)).map some = ([1798, 2139, 126, 2137, 1797, 1799, 2175, 134, 2173, 2123, 122, 2121, 2155, 129, 2153, 2155, 129, 2153, 2199, 140, 2197, 1799] : List Nat).map (fun i => lw_tbl[i]?) := by rfl
set_option maxRecDepth 100000 in
theorem zg_286_0 : (zl_286_0.flatMap (zz_wr zt_hh zp_P zt_cl zm_286.1.1.cls)).all goodWord = true := by decide +kernel
set_option maxRecDepth 100000 in
theorem zr_286_0 : (zl_286_0.flatMap (zz_wn zp_P zm_286.1.1.cls)).map some = ([] : List Nat).map (fun i => lw_tbl[i]?) := by rfl
set_option maxRecDepth 100000 in
theorem zs_286_0 : (zl_286_0.flatMap (zz_wn zp_P zm_286.1.1.cls)).all zz_isN = true := by decide +kernel
set_option maxRecDepth 100000 in
theorem zb_286_0 : zl_286_0.all (fun r => zz_wb zt_hh zp_P zt_cl zt_tf zt_fd zt_nf zm_286.1.1.cls zm_286.1.1.name r) = true := by decide +kernel
set_option maxRecDepth 100000 in
theorem zd_286_1 : ∀ r ∈ zl_286_1, decode zm_286.1.2.1 r.1 = .ok (r.2.1, r.2.2.1) := by decide +kernel
set_option maxRecDepth 100000 in
theorem zq_286_1 : (zl_286_1.flatMap (zz_wr zt_hh zp_P zt_cl zm_286.1.1.cls)).map some = ([2203, 141, 2201, 2123, 122, 2121, 2155, 129, 2153, 2151, 128, 2149, 2203, 141, 2201, 2155, 129, 2153, 2151, 128, 2149, 2203, 141, 2201, 1801, 2155, 129, 2153] : List Nat).map (fun i => lw_tbl[i]?) := by rfl
set_option maxRecDepth 100000 in
theorem zg_286_1 : (zl_286_1.flatMap (zz_wr zt_hh zp_P zt_cl zm_286.1.1.cls)).all goodWord = true := by decide +kernel
set_option maxRecDepth 100000 in
theorem zr_286_1 : (zl_286_1.flatMap (zz_wn zp_P zm_286.1.1.cls)).map some = ([] : List Nat).map (fun i => lw_tbl[i]?) := by rfl
set_option maxRecDepth 100000 in
theorem zs_286_1 : (zl_286_1.flatMap (zz_wn zp_P zm_286.1.1.cls)).all zz_isN = true := by decide +kernel
set_option maxRecDepth 100000 in
theorem zb_286_1 : zl_286_1.all (fun r => zz_wb zt_hh zp_P zt_cl zt_tf zt_fd zt_nf zm_286.1.1.cls zm_286.1.1.name r) = true := by decide +kernel
set_option maxRecDepth 100000 in
theorem zd_286_2 : ∀ r ∈ zl_286_2, decode zm_286.1.2.1 r.1 = .ok (r.2.1, r.2.2.1) := by decide +kernel
set_option maxRecDepth 100000 in
theorem zq_286_2 : (zl_286_2.flatMap (zz_wr zt_hh zp_P zt_cl zm_286.1.1.cls)).map some = ([2207, 142, 2205, 1797, 2187, 137, 2185, 2219, 145, 2217, 1797, 2179, 135, 2177, 2175, 134, 2173] : List Nat).map (fun i => lw_tbl[i]?) := by rfl
set_option maxRecDepth 100000 in
theorem zg_286_2 : (zl_286_2.flatMap (zz_wr zt_hh zp_P zt_cl zm_286.1.1.cls)).all goodWord = true := by decide +kernel
set_option maxRecDepth 100000 in
theorem zr_286_2 : (zl_286_2.flatMap (zz_wn zp_P zm_286.1.1.cls)).map some = ([] : List Nat).map (fun i => lw_tbl[i]?) := by rfl
set_option maxRecDepth 100000 in
theorem zs_286_2 : (zl_286_2.flatMap (zz_wn zp_P zm_286.1.1.cls)).all zz_isN = true := by decide +kernel
set_option maxRecDepth 100000 in
theorem zb_286_2 : zl_286_2.all (fun r => zz_wb zt_hh zp_P zt_cl zt_tf zt_fd zt_nf zm_286.1.1.cls zm_286.1.1.name r) = true := by decide +kernel
set_option maxRecDepth 100000 in
theorem zd_286_3 : ∀ r ∈ zl_286_3, decode zm_286.1.2.1 r.1 = .ok (r.2.1, r.2.2.1) := by decide +kernel
set_option maxRecDepth 100000 in
theorem zq_286_3 : (zl_286_3.flatMap (zz_wr zt_hh zp_P zt_cl zm_286.1.1.cls)).map some = ([2127, 123, 2125] : List Nat).map (fun i => lw_tbl[i]?) := by rfl
set_option maxRecDepth 100000 in
theorem zg_286_3 : (zl_286_3.flatMap (zz_wr zt_hh zp_P zt_cl zm_286.1.1.cls)).all goodWord = true := by decide +kernel
set_option maxRecDepth 100000 in
theorem zr_286_3 : (zl_286_3.flatMap (zz_wn zp_P zm_286.1.1.cls)).map some = ([] : List Nat).map (fun i => lw_tbl[i]?) := by rfl
set_option maxRecDepth 100000 in
theorem zs_286_3 : (zl_286_3.flatMap (zz_wn zp_P zm_286.1.1.cls)).all zz_isN = true := by decide +kernel
set_option maxRecDepth 100000 in
theorem zb_286_3 : zl_286_3.all (fun r => zz_wb zt_hh zp_P zt_cl zt_tf zt_fd zt_nf zm_286.1.1.cls zm_286.1.1.name r) = true := by decide +kernel
set_option maxRecDepth 100000 in
theorem zy_286_0 : zl_286_0.all (fun r => zz_tb zt_hh zp_P zm_286 r) = true := by decide +kernel
set_option maxRecDepth 100000 in
theorem zy_286_1 : zl_286_1.all (fun r => zz_tb zt_hh zp_P zm_286 r) = true := by decide +kernel
set_option maxRecDepth 100000 in
theorem zy_286_2 : zl_286_2.all (fun r => zz_tb zt_hh zp_P zm_286 r) = true := by decide +kernel
set_option maxRecDepth 100000 in
theorem zy_286_3 : zl_286_3.all (fun r => zz_tb zt_hh zp_P zm_286 r) = true := by decide +kernel
theorem zw_286 : zz_okW zt_hh zp_P zt_cl zt_tf zt_fd zt_nf zt_T zt_N zm_286 := List.forall_mem_cons.mpr ⟨(zz_w_okL zd_286_0 zb_286_0 (zz_places goodWord zq_286_0 zg_286_0) (zz_places zz_isN zr_286_0 zs_286_0) zy_286_0), List.forall_mem_cons.mpr ⟨(zz_w_okL zd_286_1 zb_286_1 (zz_places goodWord zq_286_1 zg_286_1) (zz_places zz_isN zr_286_1 zs_286_1) zy_286_1), List.forall_mem_cons.mpr ⟨(zz_w_okL zd_286_2 zb_286_2 (zz_places goodWord zq_286_2 zg_286_2) (zz_places zz_isN zr_286_2 zs_286_2) zy_286_2), List.forall_mem_cons.mpr ⟨(zz_w_okL zd_286_3 zb_286_3 (zz_places goodWord zq_286_3 zg_286_3) (zz_places zz_isN zr_286_3 zs_286_3) zy_286_3), (fun _ h => absurd h List.not_mem_nil)⟩⟩⟩⟩
set_option maxRecDepth 100000 in
theorem zq_286 : [zz_cw zt_hh zm_286, Cond.initialized zm_286.1.1.cls].map some = ([2196, 227] : List Nat).map (fun i => lw_tbl[i]?) := by rfl
set_option maxRecDepth 100000 in
theorem zg_286 : [zz_cw zt_hh zm_286, Cond.initialized zm_286.1.1.cls].all goodWord = true := by decide +kernel
set_option maxRecDepth 100000 in
theorem zb_286 : (plainName zm_286.1.1.cls && (decide (zm_286.1.1.cls ≠ "java/lang/invoke/MethodHandle" ∧ zm_286.1.1.cls ≠ "java/lang/invoke/VarHandle") && decide (zm_286.1.2.2.1 ≤ 40))) = true := by decide +kernel
theorem zo_286 : zz_okM zt_hh zp_P zt_cl zt_tf zt_fd zt_nf zt_T zt_N zm_286 := zz_w_okM zw_286 zb_286 (zz_places goodWord zq_286 zg_286)
set_option maxRecDepth 100000 in
theorem zd_287_0 : ∀ r ∈ zl_287_0, decode zm_287.1.2.1 r.1 = .ok (r.2.1, r.2.2.1) := by decide +kernel
set_option maxRecDepth 100000 in
theorem zq_287_0 : (zl_287_0.flatMap (zz_wr zt_hh zp_P zt_cl zm_287.1.1.cls)).map some = ([1799, 2123, 122, 2121, 2151, 128, 2149, 1801, 2203, 141, 2201, 1834, 1836] : List Nat).map (fun i => lw_tbl[i]?) := by rfl
set_option maxRecDepth 100000 in
theorem zg_287_0 : (zl_287_0.flatMap (zz_wr zt_hh zp_P zt_cl zm_287.1.1.cls)).all goodWord = true := by decide +kernel
set_option maxRecDepth 100000 in
theorem zr_287_0 : (zl_287_0.flatMap (zz_wn zp_P zm_287.1.1.cls)).map some = ([] : List Nat).map (fun i => lw_tbl[i]?) := by rfl
set_option maxRecDepth 100000 in
theorem zs_287_0 : (zl_287_0.flatMap (zz_wn zp_P zm_287.1.1.cls)).all zz_isN = true := by decide +kernel
set_option maxRecDepth 100000 in
theorem zb_287_0 : zl_287_0.all (fun r => zz_wb zt_hh zp_P zt_cl zt_tf zt_fd zt_nf zm_287.1.1.cls zm_287.1.1.name r) = true := by decide +kernel
set_option maxRecDepth 100000 in
theorem zd_287_1 : ∀ r ∈ zl_287_1, decode zm_287.1.2.1 r.1 = .ok (r.2.1, r.2.2.1) := by decide +kernel
set_option maxRecDepth 100000 in
theorem zq_287_1 : (zl_287_1.flatMap (zz_wr zt_hh zp_P zt_cl zm_287.1.1.cls)).map some = ([1835, 1836, 1834, 1836, 1799, 1835, 1836, 1798, 2135, 125, 2133, 2123, 122, 2121, 2127, 123, 2125] : List Nat).map (fun i => lw_tbl[i]?) := by rfl
set_option maxRecDepth 100000 in
theorem zg_287_1 : (zl_287_1.flatMap (zz_wr zt_hh zp_P zt_cl zm_287.1.1.cls)).all goodWord = true := by decide +kernel
set_option maxRecDepth 100000 in
theorem zr_287_1 : (zl_287_1.flatMap (zz_wn zp_P zm_287.1.1.cls)).map some = ([] : List Nat).map (fun i => lw_tbl[i]?) := by rfl
set_option maxRecDepth 100000 in
theorem zs_287_1 : (zl_287_1.flatMap (zz_wn zp_P zm_287.1.1.cls)).all zz_isN = true := by decide +kernel
set_option maxRecDepth 100000 in
theorem zb_287_1 : zl_287_1.all (fun r => zz_wb zt_hh zp_P zt_cl zt_tf zt_fd zt_nf zm_287.1.1.cls zm_287.1.1.name r) = true := by decide +kernel
set_option maxRecDepth 100000 in
theorem zd_287_2 : ∀ r ∈ zl_287_2, decode zm_287.1.2.1 r.1 = .ok (r.2.1, r.2.2.1) := by decide +kernel
set_option maxRecDepth 100000 in
theorem zq_287_2 : (zl_287_2.flatMap (zz_wr zt_hh zp_P zt_cl zm_287.1.1.cls)).map some = ([2159, 130, 2157, 2155, 129, 2153, 2207, 142, 2205] : List Nat).map (fun i => lw_tbl[i]?) := by rfl
set_option maxRecDepth 100000 in
theorem zg_287_2 : (zl_287_2.flatMap (zz_wr zt_hh zp_P zt_cl zm_287.1.1.cls)).all goodWord = true := by decide +kernel
set_option maxRecDepth 100000 in
theorem zr_287_2 : (zl_287_2.flatMap (zz_wn zp_P zm_287.1.1.cls)).map some = ([] : List Nat).map (fun i => lw_tbl[i]?) := by rfl
set_option maxRecDepth 100000 in
theorem zs_287_2 : (zl_287_2.flatMap (zz_wn zp_P zm_287.1.1.cls)).all zz_isN = true := by decide +kernel
set_option maxRecDepth 100000 in
theorem zb_287_2 : zl_287_2.all (fun r => zz_wb zt_hh zp_P zt_cl zt_tf zt_fd zt_nf zm_287.1.1.cls zm_287.1.1.name r) = true := by decide +kernel
set_option maxRecDepth 100000 in
theorem zy_287_0 : zl_287_0.all (fun r => zz_tb zt_hh zp_P zm_287 r) = true := by decide +kernel
set_option maxRecDepth 100000 in
theorem zy_287_1 : zl_287_1.all (fun r => zz_tb zt_hh zp_P zm_287 r) = true := by decide +kernel
set_option maxRecDepth 100000 in
theorem zy_287_2 : zl_287_2.all (fun r => zz_tb zt_hh zp_P zm_287 r) = true := by decide +kernel
theorem zw_287 : zz_okW zt_hh zp_P zt_cl zt_tf zt_fd zt_nf zt_T zt_N zm_287 := List.forall_mem_cons.mpr ⟨(zz_w_okL zd_287_0 zb_287_0 (zz_places goodWord zq_287_0 zg_287_0) (zz_places zz_isN zr_287_0 zs_287_0) zy_287_0), List.forall_mem_cons.mpr ⟨(zz_w_okL zd_287_1 zb_287_1 (zz_places goodWord zq_287_1 zg_287_1) (zz_places zz_isN zr_287_1 zs_287_1) zy_287_1), List.forall_mem_cons.mpr ⟨(zz_w_okL zd_287_2 zb_287_2 (zz_places goodWord zq_287_2 zg_287_2) (zz_places zz_isN zr_287_2 zs_287_2) zy_287_2), (fun _ h => absurd h List.not_mem_nil)⟩⟩⟩
set_option maxRecDepth 100000 in
theorem zq_287 : [zz_cw zt_hh zm_287, Cond.initialized zm_287.1.1.cls].map some = ([2220, 227] : List Nat).map (fun i => lw_tbl[i]?) := by rfl
set_option maxRecDepth 100000 in
theorem zg_287 : [zz_cw zt_hh zm_287, Cond.initialized zm_287.1.1.cls].all goodWord = true := by decide +kernel
set_option maxRecDepth 100000 in
theorem zb_287 : (plainName zm_287.1.1.cls && (decide (zm_287.1.1.cls ≠ "java/lang/invoke/MethodHandle" ∧ zm_287.1.1.cls ≠ "java/lang/invoke/VarHandle") && decide (zm_287.1.2.2.1 ≤ 40))) = true := by decide +kernel
theorem zo_287 : zz_okM zt_hh zp_P zt_cl zt_tf zt_fd zt_nf zt_T zt_N zm_287 := zz_w_okM zw_287 zb_287 (zz_places goodWord zq_287 zg_287)
set_option maxRecDepth 100000 in
theorem zd_288_0 : ∀ r ∈ zl_288_0, decode zm_288.1.2.1 r.1 = .ok (r.2.1, r.2.2.1) := by decide +kernel
set_option maxRecDepth 100000 in
theorem zq_288_0 : (zl_288_0.flatMap (zz_wr zt_hh zp_P zt_cl zm_288.1.1.cls)).map some = ([1836, 1832, 1830, 2155, 129, 2153, 1836, 1836] : List Nat).map (fun i => lw_tbl[i]?) := by rfl
set_option maxRecDepth 100000 in
theorem zg_288_0 : (zl_288_0.flatMap (zz_wr zt_hh zp_P zt_cl zm_288.1.1.cls)).all goodWord = true := by decide +kernel
set_option maxRecDepth 100000 in
theorem zr_288_0 : (zl_288_0.flatMap (zz_wn zp_P zm_288.1.1.cls)).map some = ([] : List Nat).map (fun i => lw_tbl[i]?) := by rfl
set_option maxRecDepth 100000 in
theorem zs_288_0 : (zl_288_0.flatMap (zz_wn zp_P zm_288.1.1.cls)).all zz_isN = true := by decide +kernel
set_option maxRecDepth 100000 in
theorem zb_288_0 : zl_288_0.all (fun r => zz_wb zt_hh zp_P zt_cl zt_tf zt_fd zt_nf zm_288.1.1.cls zm_288.1.1.name r) = true := by decide +kernel
set_option maxRecDepth 100000 in
theorem zd_288_1 : ∀ r ∈ zl_288_1, decode zm_288.1.2.1 r.1 = .ok (r.2.1, r.2.2.1) := by decide +kernel
set_option maxRecDepth 100000 in
theorem zq_288_1 : (zl_288_1.flatMap (zz_wr zt_hh zp_P zt_cl zm_288.1.1.cls)).map some = ([2159, 130, 2157, 1833, 2175, 134, 2173, 1831, 1832, 2159, 130, 2157] : List Nat).map (fun i => lw_tbl[i]?) := by rfl
set_option maxRecDepth 100000 in
theorem zg_288_1 : (zl_288_1.flatMap (zz_wr zt_hh zp_P zt_cl zm_288.1.1.cls)).all goodWord = true := by decide +kernel
set_option maxRecDepth 100000 in
theorem zr_288_1 : (zl_288_1.flatMap (zz_wn zp_P zm_288.1.1.cls)).map some = ([] : List Nat).map (fun i => lw_tbl[i]?) := by rfl
set_option maxRecDepth 100000 in
theorem zs_288_1 : (zl_288_1.flatMap (zz_wn zp_P zm_288.1.1.cls)).all zz_isN = true := by decide +kernel
set_option maxRecDepth 100000 in
theorem zb_288_1 : zl_288_1.all (fun r => zz_wb zt_hh zp_P zt_cl zt_tf zt_fd zt_nf zm_288.1.1.cls zm_288.1.1.name r) = true := by decide +kernel
set_option maxRecDepth 100000 in
theorem zd_288_2 : ∀ r ∈ zl_288_2, decode zm_288.1.2.1 r.1 = .ok (r.2.1, r.2.2.1) := by decide +kernel
set_option maxRecDepth 100000 in
theorem zq_288_2 : (zl_288_2.flatMap (zz_wr zt_hh zp_P zt_cl zm_288.1.1.cls)).map some = ([1832, 1831, 2211, 143, 2209, 1798, 2077, 114, 2075, 1801, 2123, 122, 2121, 2207, 142, 2205] : List Nat).map (fun i => lw_tbl[i]?) := by rfl
set_option maxRecDepth 100000 in
theorem zg_288_2 : (zl_288_2.flatMap (zz_wr zt_hh zp_P zt_cl zm_288.1.1.cls)).all goodWord = true := by decide +kernel
set_option maxRecDepth 100000 in
theorem zr_288_2 : (zl_288_2.flatMap (zz_wn zp_P zm_288.1.1.cls)).map some = ([] : List Nat).map (fun i => lw_tbl[i]?) := by rfl
set_option maxRecDepth 100000 in
theorem zs_288_2 : (zl_288_2.flatMap (zz_wn zp_P zm_288.1.1.cls)).all zz_isN = true := by decide +kernel
set_option maxRecDepth 100000 in
theorem zb_288_2 : zl_288_2.all (fun r => zz_wb zt_hh zp_P zt_cl zt_tf zt_fd zt_nf zm_288.1.1.cls zm_288.1.1.name r) = true := by decide +kernel
set_option maxRecDepth 100000 in
theorem zy_288_0 : zl_288_0.all (fun r => zz_tb zt_hh zp_P zm_288 r) = true := by decide +kernel
set_option maxRecDepth 100000 in
theorem zy_288_1 : zl_288_1.all (fun r => zz_tb zt_hh zp_P zm_288 r) = true := by decide +kernel
set_option maxRecDepth 100000 in
theorem zy_288_2 : zl_288_2.all (fun r => zz_tb zt_hh zp_P zm_288 r) = true := by decide +kernel
theorem zw_288 : zz_okW zt_hh zp_P zt_cl zt_tf zt_fd zt_nf zt_T zt_N zm_288 := List.forall_mem_cons.mpr ⟨(zz_w_okL zd_288_0 zb_288_0 (zz_places goodWord zq_288_0 zg_288_0) (zz_places zz_isN zr_288_0 zs_288_0) zy_288_0), List.forall_mem_cons.mpr ⟨(zz_w_okL zd_288_1 zb_288_1 (zz_places goodWord zq_288_1 zg_288_1) (zz_places zz_isN zr_288_1 zs_288_1) zy_288_1), List.forall_mem_cons.mpr ⟨(zz_w_okL zd_288_2 zb_288_2 (zz_places goodWord zq_288_2 zg_288_2) (zz_places zz_isN zr_288_2 zs_288_2) zy_288_2), (fun _ h => absurd h List.not_mem_nil)⟩⟩⟩
set_option maxRecDepth 100000 in
theorem zq_288 : [zz_cw zt_hh zm_288, Cond.initialized zm_288.1.1.cls].map some = ([2231, 227] : List Nat).map (fun i => lw_tbl[i]?) := by rfl
set_option maxRecDepth 100000 in
theorem zg_288 : [zz_cw zt_hh zm_288, Cond.initialized zm_288.1.1.cls].all goodWord = true := by decide +kernel
set_option maxRecDepth 100000 in
theorem zb_288 : (plainName zm_288.1.1.cls && (decide (zm_288.1.1.cls ≠ "java/lang/invoke/MethodHandle" ∧ zm_288.1.1.cls ≠ "java/lang/invoke/VarHandle") && decide (zm_288.1.2.2.1 ≤ 40))) = true := by decide +kernel
theorem zo_288 : zz_okM zt_hh zp_P zt_cl zt_tf zt_fd zt_nf zt_T zt_N zm_288 := zz_w_okM zw_288 zb_288 (zz_places goodWord zq_288 zg_288)
set_option maxRecDepth 100000 in
theorem zd_289_0 : ∀ r ∈ zl_289_0, decode zm_289.1.2.1 r.1 = .ok (r.2.1, r.2.2.1) := by decide +kernel
set_option maxRecDepth 100000 in
theorem zq_289_0 : (zl_289_0.flatMap (zz_wr zt_hh zp_P zt_cl zm_289.1.1.cls)).map some = ([1793] : List Nat).map (fun i => lw_tbl[i]?) := by rfl
set_option maxRecDepth 100000 in
theorem zg_289_0 : (zl_289_0.flatMap (zz_wr zt_hh zp_P zt_cl zm_289.1.1.cls)).all goodWord = true := by decide +kernel
set_option maxRecDepth 100000 in
theorem zr_289_0 : (zl_289_0.flatMap (zz_wn zp_P zm_289.1.1.cls)).map some = ([] : List Nat).map (fun i => lw_tbl[i]?) := by rfl
set_option maxRecDepth 100000 in
theorem zs_289_0 : (zl_289_0.flatMap (zz_wn zp_P zm_289.1.1.cls)).all zz_isN = true := by decide +kernel
set_option maxRecDepth 100000 in
theorem zb_289_0 : zl_289_0.all (fun r => zz_wb zt_hh zp_P zt_cl zt_tf zt_fd zt_nf zm_289.1.1.cls zm_289.1.1.name r) = true := by decide +kernel
set_option maxRecDepth 100000 in
theorem zy_289_0 : zl_289_0.all (fun r => zz_tb zt_hh zp_P zm_289 r) = true := by decide +kernel
theorem zw_289 : zz_okW zt_hh zp_P zt_cl zt_tf zt_fd zt_nf zt_T zt_N zm_289 := List.forall_mem_cons.mpr ⟨(zz_w_okL zd_289_0 zb_289_0 (zz_places goodWord zq_289_0 zg_289_0) (zz_places zz_isN zr_289_0 zs_289_0) zy_289_0), (fun _ h => absurd h List.not_mem_nil)⟩
set_option maxRecDepth 100000 in
theorem zq_289 : [zz_cw zt_hh zm_289, Cond.initialized zm_289.1.1.cls].map some = ([2212, 227] : List Nat).map (fun i => lw_tbl[i]?) := by rfl
set_option maxRecDepth 100000 in
theorem zg_289 : [zz_cw zt_hh zm_289, Cond.initialized zm_289.1.1.cls].all goodWord = true := by decide +kernel
set_option maxRecDepth 100000 in
theorem zb_289 : (plainName zm_289.1.1.cls && (decide (zm_289.1.1.cls ≠ "java/lang/invoke/MethodHandle" ∧ zm_289.1.1.cls ≠ "java/lang/invoke/VarHandle") && decide (zm_289.1.2.2.1 ≤ 40))) = true := by decide +kernel
theorem zo_289 : zz_okM zt_hh zp_P zt_cl zt_tf zt_fd zt_nf zt_T zt_N zm_289 := zz_w_okM zw_289 zb_289 (zz_places goodWord zq_289 zg_289)
set_option maxRecDepth 100000 in
theorem zd_290_0 : ∀ r ∈ zl_290_0, decode zm_290.1.2.1 r.1 = .ok (r.2.1, r.2.2.1) := by decide +kernel
set_option maxRecDepth 100000 in
theorem zq_290_0 : (zl_290_0.flatMap (zz_wr zt_hh zp_P zt_cl zm_290.1.1.cls)).map some = ([1836, 1836, 1836, 1832, 1830, 2159, 130, 2157, 1833, 2175, 134, 2173, 1830] : List Nat).map (fun i => lw_tbl[i]?) := by rfl
set_option maxRecDepth 100000 in
theorem zg_290_0 : (zl_290_0.flatMap (zz_wr zt_hh zp_P zt_cl zm_290.1.1.cls)).all goodWord = true := by decide +kernel
set_option maxRecDepth 100000 in
theorem zr_290_0 : (zl_290_0.flatMap (zz_wn zp_P zm_290.1.1.cls)).map some = ([] : List Nat).map (fun i => lw_tbl[i]?) := by rfl
set_option maxRecDepth 100000 in
theorem zs_290_0 : (zl_290_0.flatMap (zz_wn zp_P zm_290.1.1.cls)).all zz_isN = true := by decide +kernel
set_option maxRecDepth 100000 in
theorem zb_290_0 : zl_290_0.all (fun r => zz_wb zt_hh zp_P zt_cl zt_tf zt_fd zt_nf zm_290.1.1.cls zm_290.1.1.name r) = true := by decide +kernel
set_option maxRecDepth 100000 in
theorem zd_290_1 : ∀ r ∈ zl_290_1, decode zm_290.1.2.1 r.1 = .ok (r.2.1, r.2.2.1) := by decide +kernel
set_option maxRecDepth 100000 in
theorem zq_290_1 : (zl_290_1.flatMap (zz_wr zt_hh zp_P zt_cl zm_290.1.1.cls)).map some = ([2155, 129, 2153, 1831, 1831, 2211, 143, 2209, 1798, 2077, 114, 2075, 2159, 130, 2157, 1801, 1830] : List Nat).map (fun i => lw_tbl[i]?) := by rfl
set_option maxRecDepth 100000 in
theorem zg_290_1 : (zl_290_1.flatMap (zz_wr zt_hh zp_P zt_cl zm_290.1.1.cls)).all goodWord = true := by decide +kernel
set_option maxRecDepth 100000 in
theorem zr_290_1 : (zl_290_1.flatMap (zz_wn zp_P zm_290.1.1.cls)).map some = ([] : List Nat).map (fun i => lw_tbl[i]?) := by rfl
set_option maxRecDepth 100000 in
theorem zs_290_1 : (zl_290_1.flatMap (zz_wn zp_P zm_290.1.1.cls)).all zz_isN = true := by decide +kernel
set_option maxRecDepth 100000 in
theorem zb_290_1 : zl_290_1.all (fun r => zz_wb zt_hh zp_P zt_cl zt_tf zt_fd zt_nf zm_290.1.1.cls zm_290.1.1.name r) = true := by decide +kernel
set_option maxRecDepth 100000 in
theorem zd_290_2 : ∀ r ∈ zl_290_2, decode zm_290.1.2.1 r.1 = .ok (r.2.1, r.2.2.1) := by decide +kernel
set_option maxRecDepth 100000 in
theorem zq_290_2 : (zl_290_2.flatMap (zz_wr zt_hh zp_P zt_cl zm_290.1.1.cls)).map some = ([1831, 1833, 2175, 134, 2173, 1830, 1833, 2175, 134, 2173, 1834, 1835, 2215, 144, 2213] : List Nat).map (fun i => lw_tbl[i]?) := by rfl
set_option maxRecDepth 100000 in
theorem zg_290_2 : (zl_290_2.flatMap (zz_wr zt_hh zp_P zt_cl zm_290.1.1.cls)).all goodWord = true := by decide +kernel
set_option maxRecDepth 100000 in
theorem zr_290_2 : (zl_290_2.flatMap (zz_wn zp_P zm_290.1.1.cls)).map some = ([] : List Nat).map (fun i => lw_tbl[i]?) := by rfl
set_option maxRecDepth 100000 in
theorem zs_290_2 : (zl_290_2.flatMap (zz_wn zp_P zm_290.1.1.cls)).all zz_isN = true := by decide +kernel
set_option maxRecDepth 100000 in
theorem zb_290_2 : zl_290_2.all (fun r => zz_wb zt_hh zp_P zt_cl zt_tf zt_fd zt_nf zm_290.1.1.cls zm_290.1.1.name r) = true := by decide +kernel
set_option maxRecDepth 100000 in
theorem zd_290_3 : ∀ r ∈ zl_290_3, decode zm_290.1.2.1 r.1 = .ok (r.2.1, r.2.2.1) := by decide +kernel
set_option maxRecDepth 100000 in
theorem zq_290_3 : (zl_290_3.flatMap (zz_wr zt_hh zp_P zt_cl zm_290.1.1.cls)).map some = ([1831, 1833, 2175, 134, 2173, 1831, 1833, 2175, 134, 2173, 1834, 1831, 1835] : List Nat).map (fun i => lw_tbl[i]?) := by rfl
set_option maxRecDepth 100000 in
theorem zg_290_3 : (zl_290_3.flatMap (zz_wr zt_hh zp_P zt_cl zm_290.1.1.cls)).all goodWord = true := by decide +kernel
set_option maxRecDepth 100000 in
theorem zr_290_3 : (zl_290_3.flatMap (zz_wn zp_P zm_290.1.1.cls)).map some = ([] : List Nat).map (fun i => lw_tbl[i]?) := by rfl
set_option maxRecDepth 100000 in
theorem zs_290_3 : (zl_290_3.flatMap (zz_wn zp_P zm_290.1.1.cls)).all zz_isN = true := by decide +kernel
set_option maxRecDepth 100000 in
theorem zb_290_3 : zl_290_3.all (fun r => zz_wb zt_hh zp_P zt_cl zt_tf zt_fd zt_nf zm_290.1.1.cls zm_290.1.1.name r) = true := by decide +kernel
set_option maxRecDepth 100000 in
theorem zd_290_4 : ∀ r ∈ zl_290_4, decode zm_290.1.2.1 r.1 = .ok (r.2.1, r.2.2.1) := by decide +kernel
set_option maxRecDepth 100000 in
theorem zq_290_4 : (zl_290_4.flatMap (zz_wr zt_hh zp_P zt_cl zm_290.1.1.cls)).map some = ([2215, 144, 2213] : List Nat).map (fun i => lw_tbl[i]?) := by rfl
set_option maxRecDepth 100000 in
theorem zg_290_4 : (zl_290_4.flatMap (zz_wr zt_hh zp_P zt_cl zm_290.1.1.cls)).all goodWord = true := by decide +kernel
set_option maxRecDepth 100000 in
theorem zr_290_4 : (zl_290_4.flatMap (zz_wn zp_P zm_290.1.1.cls)).map some = ([] : List Nat).map (fun i => lw_tbl[i]?) := by rfl
set_option maxRecDepth 100000 in
theorem zs_290_4 : (zl_290_4.flatMap (zz_wn zp_P zm_290.1.1.cls)).all zz_isN = true := by decide +kernel
set_option maxRecDepth 100000 in
theorem zb_290_4 : zl_290_4.all (fun r => zz_wb zt_hh zp_P zt_cl zt_tf zt_fd zt_nf zm_290.1.1.cls zm_290.1.1.name r) = true := by decide +kernel
set_option maxRecDepth 100000 in
theorem zy_290_0 : zl_290_0.all (fun r => zz_tb zt_hh zp_P zm_290 r) = true := by decide +kernel
set_option maxRecDepth 100000 in
theorem zy_290_1 : zl_290_1.all (fun r => zz_tb zt_hh zp_P zm_290 r) = true := by decide +kernel
set_option maxRecDepth 100000 in
theorem zy_290_2 : zl_290_2.all (fun r => zz_tb zt_hh zp_P zm_290 r) = true := by decide +kernel
set_option maxRecDepth 100000 in
theorem zy_290_3 : zl_290_3.all (fun r => zz_tb zt_hh zp_P zm_290 r) = true := by decide +kernel
set_option maxRecDepth 100000 in
theorem zy_290_4 : zl_290_4.all (fun r => zz_tb zt_hh zp_P zm_290 r) = true := by decide +kernel
theorem zw_290 : zz_okW zt_hh zp_P zt_cl zt_tf zt_fd zt_nf zt_T zt_N zm_290 := List.forall_mem_cons.mpr ⟨(zz_w_okL zd_290_0 zb_290_0 (zz_places goodWord zq_290_0 zg_290_0) (zz_places zz_isN zr_290_0 zs_290_0) zy_290_0), List.forall_mem_cons.mpr ⟨(zz_w_okL zd_290_1 zb_290_1 (zz_places goodWord zq_290_1 zg_290_1) (zz_places zz_isN zr_290_1 zs_290_1) zy_290_1), List.forall_mem_cons.mpr ⟨(zz_w_okL zd_290_2 zb_290_2 (zz_places goodWord zq_290_2 zg_290_2) (zz_places zz_isN zr_290_2 zs_290_2) zy_290_2), List.forall_mem_cons.mpr ⟨(zz_w_okL zd_290_3 zb_290_3 (zz_places goodWord zq_290_3 zg_290_3) (zz_places zz_isN zr_290_3 zs_290_3) zy_290_3), List.forall_mem_cons.mpr ⟨(zz_w_okL zd_290_4 zb_290_4 (zz_places goodWord zq_290_4 zg_290_4) (zz_places zz_isN zr_290_4 zs_290_4) zy_290_4), (fun _ h => absurd h List.not_mem_nil)⟩⟩⟩⟩⟩
set_option maxRecDepth 100000 in
theorem zq_290 : [zz_cw zt_hh zm_290, Cond.initialized zm_290.1.1.cls].map some = ([2208, 227] : List Nat).map (fun i => lw_tbl[i]?) := by rfl
set_option maxRecDepth 100000 in
theorem zg_290 : [zz_cw zt_hh zm_290, Cond.initialized zm_290.1.1.cls].all goodWord = true := by decide +kernel
set_option maxRecDepth 100000 in
theorem zb_290 : (plainName zm_290.1.1.cls && (decide (zm_290.1.1.cls ≠ "java/lang/invoke/MethodHandle" ∧ zm_290.1.1.cls ≠ "java/lang/invoke/VarHandle") && decide (zm_290.1.2.2.1 ≤ 40))) = true := by decide +kernel
theorem zo_290 : zz_okM zt_hh zp_P zt_cl zt_tf zt_fd zt_nf zt_T zt_N zm_290 := zz_w_okM zw_290 zb_290 (zz_places goodWord zq_290 zg_290)
set_option maxRecDepth 100000 in
theorem zd_291_0 : ∀ r ∈ zl_291_0, decode zm_291.1.2.1 r.1 = .ok (r.2.1, r.2.2.1) := by decide +kernel
set_option maxRecDepth 100000 in
theorem zq_291_0 : (zl_291_0.flatMap (zz_wr zt_hh zp_P zt_cl zm_291.1.1.cls)).map some = ([1841, 1843, 1842, 1843, 1843, 1843] : List Nat).map (fun i => lw_tbl[i]?) := by rfl
set_option maxRecDepth 100000 in
theorem zg_291_0 : (zl_291_0.flatMap (zz_wr zt_hh zp_P zt_cl zm_291.1.1.cls)).all goodWord = true := by decide +kernel
set_option maxRecDepth 100000 in
theorem zr_291_0 : (zl_291_0.flatMap (zz_wn zp_P zm_291.1.1.cls)).map some = ([] : List Nat).map (fun i => lw_tbl[i]?) := by rfl
set_option maxRecDepth 100000 in
theorem zs_291_0 : (zl_291_0.flatMap (zz_wn zp_P zm_291.1.1.cls)).all zz_isN = true := by decide +kernel
set_option maxRecDepth 100000 in
theorem zb_291_0 : zl_291_0.all (fun r => zz_wb zt_hh zp_P zt_cl zt_tf zt_fd zt_nf zm_291.1.1.cls zm_291.1.1.name r) = true := by decide +kernel
set_option maxRecDepth 100000 in
theorem zy_291_0 : zl_291_0.all (fun r => zz_tb zt_hh zp_P zm_291 r) = true := by decide +kernel
theorem zw_291 : zz_okW zt_hh zp_P zt_cl zt_tf zt_fd zt_nf zt_T zt_N zm_291 := List.forall_mem_cons.mpr ⟨(zz_w_okL zd_291_0 zb_291_0 (zz_places goodWord zq_291_0 zg_291_0) (zz_places zz_isN zr_291_0 zs_291_0) zy_291_0), (fun _ h => absurd h List.not_mem_nil)⟩
set_option maxRecDepth 100000 in
theorem zq_291 : [zz_cw zt_hh zm_291, Cond.initialized zm_291.1.1.cls].map some = ([2274, 227] : List Nat).map (fun i => lw_tbl[i]?) := by rfl
set_option maxRecDepth 100000 in
theorem zg_291 : [zz_cw zt_hh zm_291, Cond.initialized zm_291.1.1.cls].all goodWord = true := by decide +kernel
set_option maxRecDepth 100000 in
theorem zb_291 : (plainName zm_291.1.1.cls && (decide (zm_291.1.1.cls ≠ "java/lang/invoke/MethodHandle" ∧ zm_291.1.1.cls ≠ "java/lang/invoke/VarHandle") && decide (zm_291.1.2.2.1 ≤ 40))) = true := by decide +kernel
theorem zo_291 : zz_okM zt_hh zp_P zt_cl zt_tf zt_fd zt_nf zt_T zt_N zm_291 := zz_w_okM zw_291 zb_291 (zz_places goodWord zq_291 zg_291)
set_option maxRecDepth 100000 in
theorem zd_292_0 : ∀ r ∈ zl_292_0, decode zm_292.1.2.1 r.1 = .ok (r.2.1, r.2.2.1) := by decide +kernel
set_option maxRecDepth 100000 in
theorem zq_292_0 : (zl_292_0.flatMap (zz_wr zt_hh zp_P zt_cl zm_292.1.1.cls)).map some = ([1841, 1839, 1842] : List Nat).map (fun i => lw_tbl[i]?) := by rfl
set_option maxRecDepth 100000 in
theorem zg_292_0 : (zl_292_0.flatMap (zz_wr zt_hh zp_P zt_cl zm_292.1.1.cls)).all goodWord = true := by decide +kernel
set_option maxRecDepth 100000 in
theorem zr_292_0 : (zl_292_0.flatMap (zz_wn zp_P zm_292.1.1.cls)).map some = ([] : List Nat).map (fun i => lw_tbl[i]?) := by rfl
set_option maxRecDepth 100000 in
theorem zs_292_0 : (zl_292_0.flatMap (zz_wn zp_P zm_292.1.1.cls)).all zz_isN = true := by decide +kernel
set_option maxRecDepth 100000 in
theorem zb_292_0 : zl_292_0.all (fun r => zz_wb zt_hh zp_P zt_cl zt_tf zt_fd zt_nf zm_292.1.1.cls zm_292.1.1.name r) = true := by decide +kernel
set_option maxRecDepth 100000 in
theorem zy_292_0 : zl_292_0.all (fun r => zz_tb zt_hh zp_P zm_292 r) = true := by decide +kernel
theorem zw_292 : zz_okW zt_hh zp_P zt_cl zt_tf zt_fd zt_nf zt_T zt_N zm_292 := List.forall_mem_cons.mpr ⟨(zz_w_okL zd_292_0 zb_292_0 (zz_places goodWord zq_292_0 zg_292_0) (zz_places zz_isN zr_292_0 zs_292_0) zy_292_0), (fun _ h => absurd h List.not_mem_nil)⟩
set_option maxRecDepth 100000 in
theorem zq_292 : [zz_cw zt_hh zm_292, Cond.initialized zm_292.1.1.cls].map some = ([2294, 227] : List Nat).map (fun i => lw_tbl[i]?) := by rfl
set_option maxRecDepth 100000 in
theorem zg_292 : [zz_cw zt_hh zm_292, Cond.initialized zm_292.1.1.cls].all goodWord = true := by decide +kernel
set_option maxRecDepth 100000 in
theorem zb_292 : (plainName zm_292.1.1.cls && (decide (zm_292.1.1.cls ≠ "java/lang/invoke/MethodHandle" ∧ zm_292.1.1.cls ≠ "java/lang/invoke/VarHandle") && decide (zm_292.1.2.2.1 ≤ 40))) = true := by decide +kernel
theorem zo_292 : zz_okM zt_hh zp_P zt_cl zt_tf zt_fd zt_nf zt_T zt_N zm_292 := zz_w_okM zw_292 zb_292 (zz_places goodWord zq_292 zg_292)
set_option maxRecDepth 100000 in
theorem zd_293_0 : ∀ r ∈ zl_293_0, decode zm_293.1.2.1 r.1 = .ok (r.2.1, r.2.2.1) := by decide +kernel
set_option maxRecDepth 100000 in
theorem zq_293_0 : (zl_293_0.flatMap (zz_wr zt_hh zp_P zt_cl zm_293.1.1.cls)).map some = ([1839] : List Nat).map (fun i => lw_tbl[i]?) := by rfl
set_option maxRecDepth 100000 in
theorem zg_293_0 : (zl_293_0.flatMap (zz_wr zt_hh zp_P zt_cl zm_293.1.1.cls)).all goodWord = true := by decide +kernel
set_option maxRecDepth 100000 in
theorem zr_293_0 : (zl_293_0.flatMap (zz_wn zp_P zm_293.1.1.cls)).map some = ([] : List Nat).map (fun i => lw_tbl[i]?) := by rfl
set_option maxRecDepth 100000 in
theorem zs_293_0 : (zl_293_0.flatMap (zz_wn zp_P zm_293.1.1.cls)).all zz_isN = true := by decide +kernel
set_option maxRecDepth 100000 in
theorem zb_293_0 : zl_293_0.all (fun r => zz_wb zt_hh zp_P zt_cl zt_tf zt_fd zt_nf zm_293.1.1.cls zm_293.1.1.name r) = true := by decide +kernel
set_option maxRecDepth 100000 in
theorem zy_293_0 : zl_293_0.all (fun r => zz_tb zt_hh zp_P zm_293 r) = true := by decide +kernel
theorem zw_293 : zz_okW zt_hh zp_P zt_cl zt_tf zt_fd zt_nf zt_T zt_N zm_293 := List.forall_mem_cons.mpr ⟨(zz_w_okL zd_293_0 zb_293_0 (zz_places goodWord zq_293_0 zg_293_0) (zz_places zz_isN zr_293_0 zs_293_0) zy_293_0), (fun _ h => absurd h List.not_mem_nil)⟩
set_option maxRecDepth 100000 in
theorem zq_293 : [zz_cw zt_hh zm_293, Cond.initialized zm_293.1.1.cls].map some = ([2325, 227] : List Nat).map (fun i => lw_tbl[i]?) := by rfl
set_option maxRecDepth 100000 in
theorem zg_293 : [zz_cw zt_hh zm_293, Cond.initialized zm_293.1.1.cls].all goodWord = true := by decide +kernel
set_option maxRecDepth 100000 in
theorem zb_293 : (plainName zm_293.1.1.cls && (decide (zm_293.1.1.cls ≠ "java/lang/invoke/MethodHandle" ∧ zm_293.1.1.cls ≠ "java/lang/invoke/VarHandle") && decide (zm_293.1.2.2.1 ≤ 40))) = true := by decide +kernel
theorem zo_293 : zz_okM zt_hh zp_P zt_cl zt_tf zt_fd zt_nf zt_T zt_N zm_293 := zz_w_okM zw_293 zb_293 (zz_places goodWord zq_293 zg_293)
set_option maxRecDepth 100000 in
theorem zd_294_0 : ∀ r ∈ zl_294_0, decode zm_294.1.2.1 r.1 = .ok (r.2.1, r.2.2.1) := by decide +kernel
set_option maxRecDepth 100000 in
theorem zq_294_0 : (zl_294_0.flatMap (zz_wr zt_hh zp_P zt_cl zm_294.1.1.cls)).map some = ([1839, 1839, 1839] : List Nat).map (fun i => lw_tbl[i]?) := by rfl
set_option maxRecDepth 100000 in
theorem zg_294_0 : (zl_294_0.flatMap (zz_wr zt_hh zp_P zt_cl zm_294.1.1.cls)).all goodWord = true := by decide +kernel
set_option maxRecDepth 100000 in
theorem zr_294_0 : (zl_294_0.flatMap (zz_wn zp_P zm_294.1.1.cls)).map some = ([] : List Nat).map (fun i => lw_tbl[i]?) := by rfl
set_option maxRecDepth 100000 in
theorem zs_294_0 : (zl_294_0.flatMap (zz_wn zp_P zm_294.1.1.cls)).all zz_isN = true := by decide +kernel
set_option maxRecDepth 100000 in
theorem zb_294_0 : zl_294_0.all (fun r => zz_wb zt_hh zp_P zt_cl zt_tf zt_fd zt_nf zm_294.1.1.cls zm_294.1.1.name r) = true := by decide +kernel
set_option maxRecDepth 100000 in
theorem zy_294_0 : zl_294_0.all (fun r => zz_tb zt_hh zp_P zm_294 r) = true := by decide +kernel
theorem zw_294 : zz_okW zt_hh zp_P zt_cl zt_tf zt_fd zt_nf zt_T zt_N zm_294 := List.forall_mem_cons.mpr ⟨(zz_w_okL zd_294_0 zb_294_0 (zz_places goodWord zq_294_0 zg_294_0) (zz_places zz_isN zr_294_0 zs_294_0) zy_294_0), (fun _ h => absurd h List.not_mem_nil)⟩
set_option maxRecDepth 100000 in
theorem zq_294 : [zz_cw zt_hh zm_294, Cond.initialized zm_294.1.1.cls].map some = ([2317, 227] : List Nat).map (fun i => lw_tbl[i]?) := by rfl
set_option maxRecDepth 100000 in
theorem zg_294 : [zz_cw zt_hh zm_294, Cond.initialized zm_294.1.1.cls].all goodWord = true := by decide +kernel
set_option maxRecDepth 100000 in
theorem zb_294 : (plainName zm_294.1.1.cls && (decide (zm_294.1.1.cls ≠ "java/lang/invoke/MethodHandle" ∧ zm_294.1.1.cls ≠ "java/lang/invoke/VarHandle") && decide (zm_294.1.2.2.1 ≤ 40))) = true := by decide +kernel
theorem zo_294 : zz_okM zt_hh zp_P zt_cl zt_tf zt_fd zt_nf zt_T zt_N zm_294 := zz_w_okM zw_294 zb_294 (zz_places goodWord zq_294 zg_294)
set_option maxRecDepth 100000 in
theorem zd_295_0 : ∀ r ∈ zl_295_0, decode zm_295.1.2.1 r.1 = .ok (r.2.1, r.2.2.1) := by decide +kernel
set_option maxRecDepth 100000 in
theorem zq_295_0 : (zl_295_0.flatMap (zz_wr zt_hh zp_P zt_cl zm_295.1.1.cls)).map some = ([1839, 1839, 2273, 154, 2271, 1839, 2324, 166, 2322, 1839] : List Nat).map (fun i => lw_tbl[i]?) := by rfl
set_option maxRecDepth 100000 in
theorem zg_295_0 : (zl_295_0.flatMap (zz_wr zt_hh zp_P zt_cl zm_295.1.1.cls)).all goodWord = true := by decide +kernel
set_option maxRecDepth 100000 in
theorem zr_295_0 : (zl_295_0.flatMap (zz_wn zp_P zm_295.1.1.cls)).map some = ([] : List Nat).map (fun i => lw_tbl[i]?) := by rfl
set_option maxRecDepth 100000 in
theorem zs_295_0 : (zl_295_0.flatMap (zz_wn zp_P zm_295.1.1.cls)).all zz_isN = true := by decide +kernel
set_option maxRecDepth 100000 in
theorem zb_295_0 : zl_295_0.all (fun r => zz_wb zt_hh zp_P zt_cl zt_tf zt_fd zt_nf zm_295.1.1.cls zm_295.1.1.name r) = true := by decide +kernel
set_option maxRecDepth 100000 in
theorem zd_295_1 : ∀ r ∈ zl_295_1, decode zm_295.1.2.1 r.1 = .ok (r.2.1, r.2.2.1) := by decide +kernel
set_option maxRecDepth 100000 in
theorem zq_295_1 : (zl_295_1.flatMap (zz_wr zt_hh zp_P zt_cl zm_295.1.1.cls)).map some = ([2273, 154, 2271, 2316, 164, 2314, 2273, 154, 2271] : List Nat).map (fun i => lw_tbl[i]?) := by rfl
set_option maxRecDepth 100000 in
theorem zg_295_1 : (zl_295_1.flatMap (zz_wr zt_hh zp_P zt_cl zm_295.1.1.cls)).all goodWord = true := by decide +kernel
set_option maxRecDepth 100000 in
theorem zr_295_1 : (zl_295_1.flatMap (zz_wn zp_P zm_295.1.1.cls)).map some = ([] : List Nat).map (fun i => lw_tbl[i]?) := by rfl
set_option maxRecDepth 100000 in
theorem zs_295_1 : (zl_295_1.flatMap (zz_wn zp_P zm_295.1.1.cls)).all zz_isN = true := by decide +kernel
set_option maxRecDepth 100000 in
theorem zb_295_1 : zl_295_1.all (fun r => zz_wb zt_hh zp_P zt_cl zt_tf zt_fd zt_nf zm_295.1.1.cls zm_295.1.1.name r) = true := by decide +kernel
set_option maxRecDepth 100000 in
theorem zy_295_0 : zl_295_0.all (fun r => zz_tb zt_hh zp_P zm_295 r) = true := by decide +kernel
set_option maxRecDepth 100000 in
theorem zy_295_1 : zl_295_1.all (fun r => zz_tb zt_hh zp_P zm_295 r) = true := by decide +kernel
theorem zw_295 : zz_okW zt_hh zp_P zt_cl zt_tf zt_fd zt_nf zt_T zt_N zm_295 := List.forall_mem_cons.mpr ⟨(zz_w_okL zd_295_0 zb_295_0 (zz_places goodWord zq_295_0 zg_295_0) (zz_places zz_isN zr_295_0 zs_295_0) zy_295_0), List.forall_mem_cons.mpr ⟨(zz_w_okL zd_295_1 zb_295_1 (zz_places goodWord zq_295_1 zg_295_1) (zz_places zz_isN zr_295_1 zs_295_1) zy_295_1), (fun _ h => absurd h List.not_mem_nil)⟩⟩
set_option maxRecDepth 100000 in
theorem zq_295 : [zz_cw zt_hh zm_295, Cond.initialized zm_295.1.1.cls].map some = ([2364, 227] : List Nat).map (fun i => lw_tbl[i]?) := by rfl
set_option maxRecDepth 100000 in
theorem zg_295 : [zz_cw zt_hh zm_295, Cond.initialized zm_295.1.1.cls].all goodWord = true := by decide +kernel
set_option maxRecDepth 100000 in
theorem zb_295 : (plainName zm_295.1.1.cls && (decide (zm_295.1.1.cls ≠ "java/lang/invoke/MethodHandle" ∧ zm_295.1.1.cls ≠ "java/lang/invoke/VarHandle") && decide (zm_295.1.2.2.1 ≤ 40))) = true := by decide +kernel
theorem zo_295 : zz_okM zt_hh zp_P zt_cl zt_tf zt_fd zt_nf zt_T zt_N zm_295 := zz_w_okM zw_295 zb_295 (zz_places goodWord zq_295 zg_295)
set_option maxRecDepth 100000 in
theorem zd_296_0 : ∀ r ∈ zl_296_0, decode zm_296.1.2.1 r.1 = .ok (r.2.1, r.2.2.1) := by decide +kernel
set_option maxRecDepth 100000 in
theorem zq_296_0 : (zl_296_0.flatMap (zz_wr zt_hh zp_P zt_cl zm_296.1.1.cls)).map some = ([1844, 1847, 1845, 1847, 1846, 1847, 1847, 1847] : List Nat).map (fun i => lw_tbl[i]?) := by rfl
set_option maxRecDepth 100000 in
theorem zg_296_0 : (zl_296_0.flatMap (zz_wr zt_hh zp_P zt_cl zm_296.1.1.cls)).all goodWord = true := by decide +kernel
set_option maxRecDepth 100000 in
theorem zr_296_0 : (zl_296_0.flatMap (zz_wn zp_P zm_296.1.1.cls)).map some = ([] : List Nat).map (fun i => lw_tbl[i]?) := by rfl
set_option maxRecDepth 100000 in
theorem zs_296_0 : (zl_296_0.flatMap (zz_wn zp_P zm_296.1.1.cls)).all zz_isN = true := by decide +kernel
set_option maxRecDepth 100000 in
theorem zb_296_0 : zl_296_0.all (fun r => zz_wb zt_hh zp_P zt_cl zt_tf zt_fd zt_nf zm_296.1.1.cls zm_296.1.1.name r) = true := by decide +kernel
set_option maxRecDepth 100000 in
theorem zy_296_0 : zl_296_0.all (fun r => zz_tb zt_hh zp_P zm_296 r) = true := by decide +kernel
theorem zw_296 : zz_okW zt_hh zp_P zt_cl zt_tf zt_fd zt_nf zt_T zt_N zm_296 := List.forall_mem_cons.mpr ⟨(zz_w_okL zd_296_0 zb_296_0 (zz_places goodWord zq_296_0 zg_296_0) (zz_places zz_isN zr_296_0 zs_296_0) zy_296_0), (fun _ h => absurd h List.not_mem_nil)⟩
set_option maxRecDepth 100000 in
theorem zq_296 : [zz_cw zt_hh zm_296, Cond.initialized zm_296.1.1.cls].map some = ([2321, 227] : List Nat).map (fun i => lw_tbl[i]?) := by rfl
set_option maxRecDepth 100000 in
theorem zg_296 : [zz_cw zt_hh zm_296, Cond.initialized zm_296.1.1.cls].all goodWord = true := by decide +kernel
set_option maxRecDepth 100000 in
theorem zb_296 : (plainName zm_296.1.1.cls && (decide (zm_296.1.1.cls ≠ "java/lang/invoke/MethodHandle" ∧ zm_296.1.1.cls ≠ "java/lang/invoke/VarHandle") && decide (zm_296.1.2.2.1 ≤ 40))) = true := by decide +kernel
theorem zo_296 : zz_okM zt_hh zp_P zt_cl zt_tf zt_fd zt_nf zt_T zt_N zm_296 := zz_w_okM zw_296 zb_296 (zz_places goodWord zq_296 zg_296)
set_option maxRecDepth 100000 in
theorem zd_297_0 : ∀ r ∈ zl_297_0, decode zm_297.1.2.1 r.1 = .ok (r.2.1, r.2.2.1) := by decide +kernel
set_option maxRecDepth 100000 in
theorem zq_297_0 : (zl_297_0.flatMap (zz_wr zt_hh zp_P zt_cl zm_297.1.1.cls)).map some = ([1839, 2300, 160, 2298, 2300, 160, 2298, 2316, 164, 2314, 2300, 160, 2298] : List Nat).map (fun i => lw_tbl[i]?) := by rfl
set_option maxRecDepth 100000 in
theorem zg_297_0 : (zl_297_0.flatMap (zz_wr zt_hh zp_P zt_cl zm_297.1.1.cls)).all goodWord = true := by decide +kernel
set_option maxRecDepth 100000 in
theorem zr_297_0 : (zl_297_0.flatMap (zz_wn zp_P zm_297.1.1.cls)).map some = ([] : List Nat).map (fun i => lw_tbl[i]?) := by rfl
set_option maxRecDepth 100000 in
theorem zs_297_0 : (zl_297_0.flatMap (zz_wn zp_P zm_297.1.1.cls)).all zz_isN = true := by decide +kernel
set_option maxRecDepth 100000 in
theorem zb_297_0 : zl_297_0.all (fun r => zz_wb zt_hh zp_P zt_cl zt_tf zt_fd zt_nf zm_297.1.1.cls zm_297.1.1.name r) = true := by decide +kernel
set_option maxRecDepth 100000 in
theorem zy_297_0 : zl_297_0.all (fun r => zz_tb zt_hh zp_P zm_297 r) = true := by decide +kernel
theorem zw_297 : zz_okW zt_hh zp_P zt_cl zt_tf zt_fd zt_nf zt_T zt_N zm_297 := List.forall_mem_cons.mpr ⟨(zz_w_okL zd_297_0 zb_297_0 (zz_places goodWord zq_297_0 zg_297_0) (zz_places zz_isN zr_297_0 zs_297_0) zy_297_0), (fun _ h => absurd h List.not_mem_nil)⟩
set_option maxRecDepth 100000 in
theorem zq_297 : [zz_cw zt_hh zm_297, Cond.initialized zm_297.1.1.cls].map some = ([2313, 227] : List Nat).map (fun i => lw_tbl[i]?) := by rfl
set_option maxRecDepth 100000 in
theorem zg_297 : [zz_cw zt_hh zm_297, Cond.initialized zm_297.1.1.cls].all goodWord = true := by decide +kernel
set_option maxRecDepth 100000 in
theorem zb_297 : (plainName zm_297.1.1.cls && (decide (zm_297.1.1.cls ≠ "java/lang/invoke/MethodHandle" ∧ zm_297.1.1.cls ≠ "java/lang/invoke/VarHandle") && decide (zm_297.1.2.2.1 ≤ 40))) = true := by decide +kernel
theorem zo_297 : zz_okM zt_hh zp_P zt_cl zt_tf zt_fd zt_nf zt_T zt_N zm_297 := zz_w_okM zw_297 zb_297 (zz_places goodWord zq_297 zg_297)
set_option maxRecDepth 100000 in
theorem zd_298_0 : ∀ r ∈ zl_298_0, decode zm_298.1.2.1 r.1 = .ok (r.2.1, r.2.2.1) := by decide +kernel
set_option maxRecDepth 100000 in
theorem zq_298_0 : (zl_298_0.flatMap (zz_wr zt_hh zp_P zt_cl zm_298.1.1.cls)).map some = ([1848, 1839, 2312, 163, 2310, 1849, 1847, 1839, 2320, 165, 2318, 1847, 1847, 1844] : List Nat).map (fun i => lw_tbl[i]?) := by rfl
set_option maxRecDepth 100000 in
theorem zg_298_0 : (zl_298_0.flatMap (zz_wr zt_hh zp_P zt_cl zm_298.1.1.cls)).all goodWord = true := by decide +kernel
set_option maxRecDepth 100000 in
theorem zr_298_0 : (zl_298_0.flatMap (zz_wn zp_P zm_298.1.1.cls)).map some = ([] : List Nat).map (fun i => lw_tbl[i]?) := by rfl
set_option maxRecDepth 100000 in
theorem zs_298_0 : (zl_298_0.flatMap (zz_wn zp_P zm_298.1.1.cls)).all zz_isN = true := by decide +kernel
set_option maxRecDepth 100000 in
theorem zb_298_0 : zl_298_0.all (fun r => zz_wb zt_hh zp_P zt_cl zt_tf zt_fd zt_nf zm_298.1.1.cls zm_298.1.1.name r) = true := by decide +kernel
set_option maxRecDepth 100000 in
theorem zd_298_1 : ∀ r ∈ zl_298_1, decode zm_298.1.2.1 r.1 = .ok (r.2.1, r.2.2.1) := by decide +kernel
set_option maxRecDepth 100000 in
theorem zq_298_1 : (zl_298_1.flatMap (zz_wr zt_hh zp_P zt_cl zm_298.1.1.cls)).map some = ([1846, 1847, 1848, 1847, 1848, 1848, 2300, 160, 2298, 1847, 1847, 1846] : List Nat).map (fun i => lw_tbl[i]?) := by rfl
set_option maxRecDepth 100000 in
theorem zg_298_1 : (zl_298_1.flatMap (zz_wr zt_hh zp_P zt_cl zm_298.1.1.cls)).all goodWord = true := by decide +kernel
set_option maxRecDepth 100000 in
theorem zr_298_1 : (zl_298_1.flatMap (zz_wn zp_P zm_298.1.1.cls)).map some = ([] : List Nat).map (fun i => lw_tbl[i]?) := by rfl
set_option maxRecDepth 100000 in
theorem zs_298_1 : (zl_298_1.flatMap (zz_wn zp_P zm_298.1.1.cls)).all zz_isN = true := by decide +kernel
set_option maxRecDepth 100000 in
theorem zb_298_1 : zl_298_1.all (fun r => zz_wb zt_hh zp_P zt_cl zt_tf zt_fd zt_nf zm_298.1.1.cls zm_298.1.1.name r) = true := by decide +kernel
set_option maxRecDepth 100000 in
theorem zd_298_2 : ∀ r ∈ zl_298_2, decode zm_298.1.2.1 r.1 = .ok (r.2.1, r.2.2.1) := by decide +kernel
set_option maxRecDepth 100000 in
theorem zq_298_2 : (zl_298_2.flatMap (zz_wr zt_hh zp_P zt_cl zm_298.1.1.cls)).map some = ([2324, 166, 2322, 1849, 1849, 1839, 2316, 164, 2314, 1849, 1849, 2316, 164, 2314, 2320, 165, 2318, 1849] : List Nat).map (fun i => lw_tbl[i]?) := by rfl
set_option maxRecDepth 100000 in
theorem zg_298_2 : (zl_298_2.flatMap (zz_wr zt_hh zp_P zt_cl zm_298.1.1.cls)).all goodWord = true := by decide +kernel
set_option maxRecDepth 100000 in
theorem zr_298_2 : (zl_298_2.flatMap (zz_wn zp_P zm_298.1.1.cls)).map some = ([] : List Nat).map (fun i => lw_tbl[i]?) := by rfl
set_option maxRecDepth 100000 in
theorem zs_298_2 : (zl_298_2.flatMap (zz_wn zp_P zm_298.1.1.cls)).all zz_isN = true := by decide +kernel
set_option maxRecDepth 100000 in
theorem zb_298_2 : zl_298_2.all (fun r => zz_wb zt_hh zp_P zt_cl zt_tf zt_fd zt_nf zm_298.1.1.cls zm_298.1.1.name r) = true := by decide +kernel
set_option maxRecDepth 100000 in
theorem zd_298_3 : ∀ r ∈ zl_298_3, decode zm_298.1.2.1 r.1 = .ok (r.2.1, r.2.2.1) := by decide +kernel
set_option maxRecDepth 100000 in
theorem zq_298_3 : (zl_298_3.flatMap (zz_wr zt_hh zp_P zt_cl zm_298.1.1.cls)).map some = ([2316, 164, 2314, 2312, 163, 2310, 1849] : List Nat).map (fun i => lw_tbl[i]?) := by rfl
set_option maxRecDepth 100000 in
theorem zg_298_3 : (zl_298_3.flatMap (zz_wr zt_hh zp_P zt_cl zm_298.1.1.cls)).all goodWord = true := by decide +kernel
set_option maxRecDepth 100000 in
theorem zr_298_3 : (zl_298_3.flatMap (zz_wn zp_P zm_298.1.1.cls)).map some = ([] : List Nat).map (fun i => lw_tbl[i]?) := by rfl
set_option maxRecDepth 100000 in
theorem zs_298_3 : (zl_298_3.flatMap (zz_wn zp_P zm_298.1.1.cls)).all zz_isN = true := by decide +kernel
set_option maxRecDepth 100000 in
theorem zb_298_3 : zl_298_3.all (fun r => zz_wb zt_hh zp_P zt_cl zt_tf zt_fd zt_nf zm_298.1.1.cls zm_298.1.1.name r) = true := by decide +kernel
set_option maxRecDepth 100000 in
theorem zy_298_0 : zl_298_0.all (fun r => zz_tb zt_hh zp_P zm_298 r) = true := by decide +kernel
set_option maxRecDepth 100000 in
theorem zy_298_1 : zl_298_1.all (fun r => zz_tb zt_hh zp_P zm_298 r) = true := by decide +kernel
set_option maxRecDepth 100000 in
theorem zy_298_2 : zl_298_2.all (fun r => zz_tb zt_hh zp_P zm_298 r) = true := by decide +kernel
set_option maxRecDepth 100000 in
theorem zy_298_3 : zl_298_3.all (fun r => zz_tb zt_hh zp_P zm_298 r) = true := by decide +kernel
theorem zw_298 : zz_okW zt_hh zp_P zt_cl zt_tf zt_fd zt_nf zt_T zt_N zm_298 := List.forall_mem_cons.mpr ⟨(zz_w_okL zd_298_0 zb_298_0 (zz_places goodWord zq_298_0 zg_298_0) (zz_places zz_isN zr_298_0 zs_298_0) zy_298_0), List.forall_mem_cons.mpr ⟨(zz_w_okL zd_298_1 zb_298_1 (zz_places goodWord zq_298_1 zg_298_1) (zz_places zz_isN zr_298_1 zs_298_1) zy_298_1), List.forall_mem_cons.mpr ⟨(zz_w_okL zd_298_2 zb_298_2 (zz_places goodWord zq_298_2 zg_298_2) (zz_places zz_isN zr_298_2 zs_298_2) zy_298_2), List.forall_mem_cons.mpr ⟨(zz_w_okL zd_298_3 zb_298_3 (zz_places goodWord zq_298_3 zg_298_3) (zz_places zz_isN zr_298_3 zs_298_3) zy_298_3), (fun _ h => absurd h List.not_mem_nil)⟩⟩⟩⟩
set_option maxRecDepth 100000 in
theorem zq_298 : [zz_cw zt_hh zm_298, Cond.initialized zm_298.1.1.cls].map some = ([2309, 227] : List Nat).map (fun i => lw_tbl[i]?) := by rfl
set_option maxRecDepth 100000 in
theorem zg_298 : [zz_cw zt_hh zm_298, Cond.initialized zm_298.1.1.cls].all goodWord = true := by decide +kernel
set_option maxRecDepth 100000 in
theorem zb_298 : (plainName zm_298.1.1.cls && (decide (zm_298.1.1.cls ≠ "java/lang/invoke/MethodHandle" ∧ zm_298.1.1.cls ≠ "java/lang/invoke/VarHandle") && decide (zm_298.1.2.2.1 ≤ 40))) = true := by decide +kernel
theorem zo_298 : zz_okM zt_hh zp_P zt_cl zt_tf zt_fd zt_nf zt_T zt_N zm_298 := zz_w_okM zw_298 zb_298 (zz_places goodWord zq_298 zg_298)
set_option maxRecDepth 100000 in
theorem zd_299_0 : ∀ r ∈ zl_299_0, decode zm_299.1.2.1 r.1 = .ok (r.2.1, r.2.2.1) := by decide +kernel
set_option maxRecDepth 100000 in
theorem zq_299_0 : (zl_299_0.flatMap (zz_wr zt_hh zp_P zt_cl zm_299.1.1.cls)).map some = ([1839, 2300, 160, 2298, 1839, 2300, 160, 2298, 2300, 160, 2298] : List Nat).map (fun i => lw_tbl[i]?) := by rfl
set_option maxRecDepth 100000 in
theorem zg_299_0 : (zl_299_0.flatMap (zz_wr zt_hh zp_P zt_cl zm_299.1.1.cls)).all goodWord = true := by decide +kernel
set_option maxRecDepth 100000 in
theorem zr_299_0 : (zl_299_0.flatMap (zz_wn zp_P zm_299.1.1.cls)).map some = ([] : List Nat).map (fun i => lw_tbl[i]?) := by rfl
set_option maxRecDepth 100000 in
theorem zs_299_0 : (zl_299_0.flatMap (zz_wn zp_P zm_299.1.1.cls)).all zz_isN = true := by decide +kernel
set_option maxRecDepth 100000 in
theorem zb_299_0 : zl_299_0.all (fun r => zz_wb zt_hh zp_P zt_cl zt_tf zt_fd zt_nf zm_299.1.1.cls zm_299.1.1.name r) = true := by decide +kernel
set_option maxRecDepth 100000 in
theorem zd_299_1 : ∀ r ∈ zl_299_1, decode zm_299.1.2.1 r.1 = .ok (r.2.1, r.2.2.1) := by decide +kernel
set_option maxRecDepth 100000 in
theorem zq_299_1 : (zl_299_1.flatMap (zz_wr zt_hh zp_P zt_cl zm_299.1.1.cls)).map some = ([2316, 164, 2314, 2300, 160, 2298] : List Nat).map (fun i => lw_tbl[i]?) := by rfl
set_option maxRecDepth 100000 in
theorem zg_299_1 : (zl_299_1.flatMap (zz_wr zt_hh zp_P zt_cl zm_299.1.1.cls)).all goodWord = true := by decide +kernel
set_option maxRecDepth 100000 in
theorem zr_299_1 : (zl_299_1.flatMap (zz_wn zp_P zm_299.1.1.cls)).map some = ([] : List Nat).map (fun i => lw_tbl[i]?) := by rfl
set_option maxRecDepth 100000 in
theorem zs_299_1 : (zl_299_1.flatMap (zz_wn zp_P zm_299.1.1.cls)).all zz_isN = true := by decide +kernel
set_option maxRecDepth 100000 in
theorem zb_299_1 : zl_299_1.all (fun r => zz_wb zt_hh zp_P zt_cl zt_tf zt_fd zt_nf zm_299.1.1.cls zm_299.1.1.name r) = true := by decide +kernel
set_option maxRecDepth 100000 in
theorem zy_299_0 : zl_299_0.all (fun r => zz_tb zt_hh zp_P zm_299 r) = true := by decide +kernel
set_option maxRecDepth 100000 in
theorem zy_299_1 : zl_299_1.all (fun r => zz_tb zt_hh zp_P zm_299 r) = true := by decide +kernel
theorem zw_299 : zz_okW zt_hh zp_P zt_cl zt_tf zt_fd zt_nf zt_T zt_N zm_299 := List.forall_mem_cons.mpr ⟨(zz_w_okL zd_299_0 zb_299_0 (zz_places goodWord zq_299_0 zg_299_0) (zz_places zz_isN zr_299_0 zs_299_0) zy_299_0), List.forall_mem_cons.mpr ⟨(zz_w_okL zd_299_1 zb_299_1 (zz_places goodWord zq_299_1 zg_299_1) (zz_places zz_isN zr_299_1 zs_299_1) zy_299_1), (fun _ h => absurd h List.not_mem_nil)⟩⟩
set_option maxRecDepth 100000 in
theorem zq_299 : [zz_cw zt_hh zm_299, Cond.initialized zm_299.1.1.cls].map some = ([2337, 227] : List Nat).map (fun i => lw_tbl[i]?) := by rfl
set_option maxRecDepth 100000 in
theorem zg_299 : [zz_cw zt_hh zm_299, Cond.initialized zm_299.1.1.cls].all goodWord = true := by decide +kernel
set_option maxRecDepth 100000 in
theorem zb_299 : (plainName zm_299.1.1.cls && (decide (zm_299.1.1.cls ≠ "java/lang/invoke/MethodHandle" ∧ zm_299.1.1.cls ≠ "java/lang/invoke/VarHandle") && decide (zm_299.1.2.2.1 ≤ 40))) = true := by decide +kernel
theorem zo_299 : zz_okM zt_hh zp_P zt_cl zt_tf zt_fd zt_nf zt_T zt_N zm_299 := zz_w_okM zw_299 zb_299 (zz_places goodWord zq_299 zg_299)
set_option maxRecDepth 100000 in
theorem zd_300_0 : ∀ r ∈ zl_300_0, decode zm_300.1.2.1 r.1 = .ok (r.2.1, r.2.2.1) := by decide +kernel
set_option maxRecDepth 100000 in
theorem zq_300_0 : (zl_300_0.flatMap (zz_wr zt_hh zp_P zt_cl zm_300.1.1.cls)).map some = ([1839, 2300, 160, 2298, 2300, 160, 2298] : List Nat).map (fun i => lw_tbl[i]?) := by rfl
set_option maxRecDepth 100000 in
theorem zg_300_0 : (zl_300_0.flatMap (zz_wr zt_hh zp_P zt_cl zm_300.1.1.cls)).all goodWord = true := by decide +kernel
set_option maxRecDepth 100000 in
theorem zr_300_0 : (zl_300_0.flatMap (zz_wn zp_P zm_300.1.1.cls)).map some = ([] : List Nat).map (fun i => lw_tbl[i]?) := by rfl
set_option maxRecDepth 100000 in
theorem zs_300_0 : (zl_300_0.flatMap (zz_wn zp_P zm_300.1.1.cls)).all zz_isN = true := by decide +kernel
set_option maxRecDepth 100000 in
theorem zb_300_0 : zl_300_0.all (fun r => zz_wb zt_hh zp_P zt_cl zt_tf zt_fd zt_nf zm_300.1.1.cls zm_300.1.1.name r) = true := by decide +kernel
set_option maxRecDepth 100000 in
theorem zy_300_0 : zl_300_0.all (fun r => zz_tb zt_hh zp_P zm_300 r) = true := by decide +kernel
theorem zw_300 : zz_okW zt_hh zp_P zt_cl zt_tf zt_fd zt_nf zt_T zt_N zm_300 := List.forall_mem_cons.mpr ⟨(zz_w_okL zd_300_0 zb_300_0 (zz_places goodWord zq_300_0 zg_300_0) (zz_places zz_isN zr_300_0 zs_300_0) zy_300_0), (fun _ h => absurd h List.not_mem_nil)⟩
set_option maxRecDepth 100000 in
theorem zq_300 : [zz_cw zt_hh zm_300, Cond.initialized zm_300.1.1.cls].map some = ([2510, 227] : List Nat).map (fun i => lw_tbl[i]?) := by rfl
set_option maxRecDepth 100000 in
theorem zg_300 : [zz_cw zt_hh zm_300, Cond.initialized zm_300.1.1.cls].all goodWord = true := by decide +kernel
set_option maxRecDepth 100000 in
theorem zb_300 : (plainName zm_300.1.1.cls && (decide (zm_300.1.1.cls ≠ "java/lang/invoke/MethodHandle" ∧ zm_300.1.1.cls ≠ "java/lang/invoke/VarHandle") && decide (zm_300.1.2.2.1 ≤ 40))) = true := by decide +kernel
theorem zo_300 : zz_okM zt_hh zp_P zt_cl zt_tf zt_fd zt_nf zt_T zt_N zm_300 := zz_w_okM zw_300 zb_300 (zz_places goodWord zq_300 zg_300)
set_option maxRecDepth 100000 in
theorem zd_301_0 : ∀ r ∈ zl_301_0, decode zm_301.1.2.1 r.1 = .ok (r.2.1, r.2.2.1) := by decide +kernel
set_option maxRecDepth 100000 in
theorem zq_301_0 : (zl_301_0.flatMap (zz_wr zt_hh zp_P zt_cl zm_301.1.1.cls)).map some = ([1858, 1858, 1859] : List Nat).map (fun i => lw_tbl[i]?) := by rfl
set_option maxRecDepth 100000 in
theorem zg_301_0 : (zl_301_0.flatMap (zz_wr zt_hh zp_P zt_cl zm_301.1.1.cls)).all goodWord = true := by decide +kernel
set_option maxRecDepth 100000 in
theorem zr_301_0 : (zl_301_0.flatMap (zz_wn zp_P zm_301.1.1.cls)).map some = ([] : List Nat).map (fun i => lw_tbl[i]?) := by rfl
set_option maxRecDepth 100000 in
theorem zs_301_0 : (zl_301_0.flatMap (zz_wn zp_P zm_301.1.1.cls)).all zz_isN = true := by decide +kernel
set_option maxRecDepth 100000 in
theorem zb_301_0 : zl_301_0.all (fun r => zz_wb zt_hh zp_P zt_cl zt_tf zt_fd zt_nf zm_301.1.1.cls zm_301.1.1.name r) = true := by decide +kernel
set_option maxRecDepth 100000 in
theorem zy_301_0 : zl_301_0.all (fun r => zz_tb zt_hh zp_P zm_301 r) = true := by decide +kernel
theorem zw_301 : zz_okW zt_hh zp_P zt_cl zt_tf zt_fd zt_nf zt_T zt_N zm_301 := List.forall_mem_cons.mpr ⟨(zz_w_okL zd_301_0 zb_301_0 (zz_places goodWord zq_301_0 zg_301_0) (zz_places zz_isN zr_301_0 zs_301_0) zy_301_0), (fun _ h => absurd h List.not_mem_nil)⟩
set_option maxRecDepth 100000 in
theorem zq_301 : [zz_cw zt_hh zm_301, Cond.initialized zm_301.1.1.cls].map some = ([2262, 227] : List Nat).map (fun i => lw_tbl[i]?) := by rfl
set_option maxRecDepth 100000 in
theorem zg_301 : [zz_cw zt_hh zm_301, Cond.initialized zm_301.1.1.cls].all goodWord = true := by decide +kernel
set_option maxRecDepth 100000 in
theorem zb_301 : (plainName zm_301.1.1.cls && (decide (zm_301.1.1.cls ≠ "java/lang/invoke/MethodHandle" ∧ zm_301.1.1.cls ≠ "java/lang/invoke/VarHandle") && decide (zm_301.1.2.2.1 ≤ 40))) = true := by decide +kernel
theorem zo_301 : zz_okM zt_hh zp_P zt_cl zt_tf zt_fd zt_nf zt_T zt_N zm_301 := zz_w_okM zw_301 zb_301 (zz_places goodWord zq_301 zg_301)
set_option maxRecDepth 100000 in
theorem zd_302_0 : ∀ r ∈ zl_302_0, decode zm_302.1.2.1 r.1 = .ok (r.2.1, r.2.2.1) := by decide +kernel
set_option maxRecDepth 100000 in
theorem zq_302_0 : (zl_302_0.flatMap (zz_wr zt_hh zp_P zt_cl zm_302.1.1.cls)).map some = ([1852, 1853, 1862, 2261, 151, 2259, 1852, 1852] : List Nat).map (fun i => lw_tbl[i]?) := by rfl
set_option maxRecDepth 100000 in
theorem zg_302_0 : (zl_302_0.flatMap (zz_wr zt_hh zp_P zt_cl zm_302.1.1.cls)).all goodWord = true := by decide +kernel
set_option maxRecDepth 100000 in
theorem zr_302_0 : (zl_302_0.flatMap (zz_wn zp_P zm_302.1.1.cls)).map some = ([] : List Nat).map (fun i => lw_tbl[i]?) := by rfl
set_option maxRecDepth 100000 in
theorem zs_302_0 : (zl_302_0.flatMap (zz_wn zp_P zm_302.1.1.cls)).all zz_isN = true := by decide +kernel
set_option maxRecDepth 100000 in
theorem zb_302_0 : zl_302_0.all (fun r => zz_wb zt_hh zp_P zt_cl zt_tf zt_fd zt_nf zm_302.1.1.cls zm_302.1.1.name r) = true := by decide +kernel
set_option maxRecDepth 100000 in
theorem zy_302_0 : zl_302_0.all (fun r => zz_tb zt_hh zp_P zm_302 r) = true := by decide +kernel
theorem zw_302 : zz_okW zt_hh zp_P zt_cl zt_tf zt_fd zt_nf zt_T zt_N zm_302 := List.forall_mem_cons.mpr ⟨(zz_w_okL zd_302_0 zb_302_0 (zz_places goodWord zq_302_0 zg_302_0) (zz_places zz_isN zr_302_0 zs_302_0) zy_302_0), (fun _ h => absurd h List.not_mem_nil)⟩
set_option maxRecDepth 100000 in
theorem zq_302 : [zz_cw zt_hh zm_302, Cond.initialized zm_302.1.1.cls].map some = ([2270, 227] : List Nat).map (fun i => lw_tbl[i]?) := by rfl
set_option maxRecDepth 100000 in
theorem zg_302 : [zz_cw zt_hh zm_302, Cond.initialized zm_302.1.1.cls].all goodWord = true := by decide +kernel
set_option maxRecDepth 100000 in
theorem zb_302 : (plainName zm_302.1.1.cls && (decide (zm_302.1.1.cls ≠ "java/lang/invoke/MethodHandle" ∧ zm_302.1.1.cls ≠ "java/lang/invoke/VarHandle") && decide (zm_302.1.2.2.1 ≤ 40))) = true := by decide +kernel
theorem zo_302 : zz_okM zt_hh zp_P zt_cl zt_tf zt_fd zt_nf zt_T zt_N zm_302 := zz_w_okM zw_302 zb_302 (zz_places goodWord zq_302 zg_302)
set_option maxRecDepth 100000 in
theorem zd_303_0 : ∀ r ∈ zl_303_0, decode zm_303.1.2.1 r.1 = .ok (r.2.1, r.2.2.1) := by decide +kernel
set_option maxRecDepth 100000 in
theorem zq_303_0 : (zl_303_0.flatMap (zz_wr zt_hh zp_P zt_cl zm_303.1.1.cls)).map some = ([1854, 2336, 169, 2334, 1854, 1854, 1862, 2261, 151, 2259, 2273, 154, 2271] : List Nat).map (fun i => lw_tbl[i]?) := by rfl
set_option maxRecDepth 100000 in
theorem zg_303_0 : (zl_303_0.flatMap (zz_wr zt_hh zp_P zt_cl zm_303.1.1.cls)).all goodWord = true := by decide +kernel
set_option maxRecDepth 100000 in
theorem zr_303_0 : (zl_303_0.flatMap (zz_wn zp_P zm_303.1.1.cls)).map some = ([] : List Nat).map (fun i => lw_tbl[i]?) := by rfl
set_option maxRecDepth 100000 in
theorem zs_303_0 : (zl_303_0.flatMap (zz_wn zp_P zm_303.1.1.cls)).all zz_isN = true := by decide +kernel
set_option maxRecDepth 100000 in
theorem zb_303_0 : zl_303_0.all (fun r => zz_wb zt_hh zp_P zt_cl zt_tf zt_fd zt_nf zm_303.1.1.cls zm_303.1.1.name r) = true := by decide +kernel
set_option maxRecDepth 100000 in
theorem zy_303_0 : zl_303_0.all (fun r => zz_tb zt_hh zp_P zm_303 r) = true := by decide +kernel
theorem zw_303 : zz_okW zt_hh zp_P zt_cl zt_tf zt_fd zt_nf zt_T zt_N zm_303 := List.forall_mem_cons.mpr ⟨(zz_w_okL zd_303_0 zb_303_0 (zz_places goodWord zq_303_0 zg_303_0) (zz_places zz_isN zr_303_0 zs_303_0) zy_303_0), (fun _ h => absurd h List.not_mem_nil)⟩
set_option maxRecDepth 100000 in
theorem zq_303 : [zz_cw zt_hh zm_303, Cond.initialized zm_303.1.1.cls].map some = ([2333, 227] : List Nat).map (fun i => lw_tbl[i]?) := by rfl
set_option maxRecDepth 100000 in
theorem zg_303 : [zz_cw zt_hh zm_303, Cond.initialized zm_303.1.1.cls].all goodWord = true := by decide +kernel
set_option maxRecDepth 100000 in
theorem zb_303 : (plainName zm_303.1.1.cls && (decide (zm_303.1.1.cls ≠ "java/lang/invoke/MethodHandle" ∧ zm_303.1.1.cls ≠ "java/lang/invoke/VarHandle") && decide (zm_303.1.2.2.1 ≤ 40))) = true := by decide +kernel
theorem zo_303 : zz_okM zt_hh zp_P zt_cl zt_tf zt_fd zt_nf zt_T zt_N zm_303 := zz_w_okM zw_303 zb_303 (zz_places goodWord zq_303 zg_303)
set_option maxRecDepth 100000 in
theorem zd_304_0 : ∀ r ∈ zl_304_0, decode zm_304.1.2.1 r.1 = .ok (r.2.1, r.2.2.1) := by decide +kernel
set_option maxRecDepth 100000 in
theorem zq_304_0 : (zl_304_0.flatMap (zz_wr zt_hh zp_P zt_cl zm_304.1.1.cls)).map some = ([1840, 1839, 1839, 1840] : List Nat).map (fun i => lw_tbl[i]?) := by rfl
set_option maxRecDepth 100000 in
theorem zg_304_0 : (zl_304_0.flatMap (zz_wr zt_hh zp_P zt_cl zm_304.1.1.cls)).all goodWord = true := by decide +kernel
set_option maxRecDepth 100000 in
theorem zr_304_0 : (zl_304_0.flatMap (zz_wn zp_P zm_304.1.1.cls)).map some = ([] : List Nat).map (fun i => lw_tbl[i]?) := by rfl
set_option maxRecDepth 100000 in
theorem zs_304_0 : (zl_304_0.flatMap (zz_wn zp_P zm_304.1.1.cls)).all zz_isN = true := by decide +kernel
set_option maxRecDepth 100000 in
theorem zb_304_0 : zl_304_0.all (fun r => zz_wb zt_hh zp_P zt_cl zt_tf zt_fd zt_nf zm_304.1.1.cls zm_304.1.1.name r) = true := by decide +kernel
set_option maxRecDepth 100000 in
theorem zy_304_0 : zl_304_0.all (fun r => zz_tb zt_hh zp_P zm_304 r) = true := by decide +kernel
theorem zw_304 : zz_okW zt_hh zp_P zt_cl zt_tf zt_fd zt_nf zt_T zt_N zm_304 := List.forall_mem_cons.mpr ⟨(zz_w_okL zd_304_0 zb_304_0 (zz_places goodWord zq_304_0 zg_304_0) (zz_places zz_isN zr_304_0 zs_304_0) zy_304_0), (fun _ h => absurd h List.not_mem_nil)⟩
set_option maxRecDepth 100000 in
theorem zq_304 : [zz_cw zt_hh zm_304, Cond.initialized zm_304.1.1.cls].map some = ([2329, 227] : List Nat).map (fun i => lw_tbl[i]?) := by rfl
set_option maxRecDepth 100000 in
theorem zg_304 : [zz_cw zt_hh zm_304, Cond.initialized zm_304.1.1.cls].all goodWord = true := by decide +kernel
set_option maxRecDepth 100000 in
theorem zb_304 : (plainName zm_304.1.1.cls && (decide (zm_304.1.1.cls ≠ "java/lang/invoke/MethodHandle" ∧ zm_304.1.1.cls ≠ "java/lang/invoke/VarHandle") && decide (zm_304.1.2.2.1 ≤ 40))) = true := by decide +kernel
theorem zo_304 : zz_okM zt_hh zp_P zt_cl zt_tf zt_fd zt_nf zt_T zt_N zm_304 := zz_w_okM zw_304 zb_304 (zz_places goodWord zq_304 zg_304)
set_option maxRecDepth 100000 in
theorem zd_305_0 : ∀ r ∈ zl_305_0, decode zm_305.1.2.1 r.1 = .ok (r.2.1, r.2.2.1) := by decide +kernel
set_option maxRecDepth 100000 in
theorem zq_305_0 : (zl_305_0.flatMap (zz_wr zt_hh zp_P zt_cl zm_305.1.1.cls)).map some = ([1843, 1843, 1842, 2300, 160, 2298] : List Nat).map (fun i => lw_tbl[i]?) := by rfl
set_option maxRecDepth 100000 in
theorem zg_305_0 : (zl_305_0.flatMap (zz_wr zt_hh zp_P zt_cl zm_305.1.1.cls)).all goodWord = true := by decide +kernel
set_option maxRecDepth 100000 in
theorem zr_305_0 : (zl_305_0.flatMap (zz_wn zp_P zm_305.1.1.cls)).map some = ([] : List Nat).map (fun i => lw_tbl[i]?) := by rfl
set_option maxRecDepth 100000 in
theorem zs_305_0 : (zl_305_0.flatMap (zz_wn zp_P zm_305.1.1.cls)).all zz_isN = true := by decide +kernel
set_option maxRecDepth 100000 in
theorem zb_305_0 : zl_305_0.all (fun r => zz_wb zt_hh zp_P zt_cl zt_tf zt_fd zt_nf zm_305.1.1.cls zm_305.1.1.name r) = true := by decide +kernel
set_option maxRecDepth 100000 in
theorem zd_305_1 : ∀ r ∈ zl_305_1, decode zm_305.1.2.1 r.1 = .ok (r.2.1, r.2.2.1) := by decide +kernel
set_option maxRecDepth 100000 in
theorem zq_305_1 : (zl_305_1.flatMap (zz_wr zt_hh zp_P zt_cl zm_305.1.1.cls)).map some = ([1843, 1848, 1849, 1841, 1842] : List Nat).map (fun i => lw_tbl[i]?) := by rfl
set_option maxRecDepth 100000 in
theorem zg_305_1 : (zl_305_1.flatMap (zz_wr zt_hh zp_P zt_cl zm_305.1.1.cls)).all goodWord = true := by decide +kernel
set_option maxRecDepth 100000 in
theorem zr_305_1 : (zl_305_1.flatMap (zz_wn zp_P zm_305.1.1.cls)).map some = ([] : List Nat).map (fun i => lw_tbl[i]?) := by rfl
set_option maxRecDepth 100000 in
theorem zs_305_1 : (zl_305_1.flatMap (zz_wn zp_P zm_305.1.1.cls)).all zz_isN = true := by decide +kernel
set_option maxRecDepth 100000 in
theorem zb_305_1 : zl_305_1.all (fun r => zz_wb zt_hh zp_P zt_cl zt_tf zt_fd zt_nf zm_305.1.1.cls zm_305.1.1.name r) = true := by decide +kernel
set_option maxRecDepth 100000 in
theorem zd_305_2 : ∀ r ∈ zl_305_2, decode zm_305.1.2.1 r.1 = .ok (r.2.1, r.2.2.1) := by decide +kernel
set_option maxRecDepth 100000 in
theorem zq_305_2 : (zl_305_2.flatMap (zz_wr zt_hh zp_P zt_cl zm_305.1.1.cls)).map some = ([2308, 162, 2306, 1848, 1848, 1849, 1862, 2261, 151, 2259] : List Nat).map (fun i => lw_tbl[i]?) := by rfl
set_option maxRecDepth 100000 in
theorem zg_305_2 : (zl_305_2.flatMap (zz_wr zt_hh zp_P zt_cl zm_305.1.1.cls)).all goodWord = true := by decide +kernel
set_option maxRecDepth 100000 in
theorem zr_305_2 : (zl_305_2.flatMap (zz_wn zp_P zm_305.1.1.cls)).map some = ([] : List Nat).map (fun i => lw_tbl[i]?) := by rfl
set_option maxRecDepth 100000 in
theorem zs_305_2 : (zl_305_2.flatMap (zz_wn zp_P zm_305.1.1.cls)).all zz_isN = true := by decide +kernel
set_option maxRecDepth 100000 in
theorem zb_305_2 : zl_305_2.all (fun r => zz_wb zt_hh zp_P zt_cl zt_tf zt_fd zt_nf zm_305.1.1.cls zm_305.1.1.name r) = true := by decide +kernel
set_option maxRecDepth 100000 in
theorem zd_305_3 : ∀ r ∈ zl_305_3, decode zm_305.1.2.1 r.1 = .ok (r.2.1, r.2.2.1) := by decide +kernel
set_option maxRecDepth 100000 in
theorem zq_305_3 : (zl_305_3.flatMap (zz_wr zt_hh zp_P zt_cl zm_305.1.1.cls)).map some = ([2328, 167, 2326, 1843, 1839, 1840, 1841, 1840, 1840, 1839, 1840, 1841, 1842] : List Nat).map (fun i => lw_tbl[i]?) := by rfl
set_option maxRecDepth 100000 in
theorem zg_305_3 : (zl_305_3.flatMap (zz_wr zt_hh zp_P zt_cl zm_305.1.1.cls)).all goodWord = true := by decide +kernel
set_option maxRecDepth 100000 in
theorem zr_305_3 : (zl_305_3.flatMap (zz_wn zp_P zm_305.1.1.cls)).map some = ([] : List Nat).map (fun i => lw_tbl[i]?) := by rfl
set_option maxRecDepth 100000 in
theorem zs_305_3 : (zl_305_3.flatMap (zz_wn zp_P zm_305.1.1.cls)).all zz_isN = true := by decide +kernel
set_option maxRecDepth 100000 in
theorem zb_305_3 : zl_305_3.all (fun r => zz_wb zt_hh zp_P zt_cl zt_tf zt_fd zt_nf zm_305.1.1.cls zm_305.1.1.name r) = true := by decide +kernel
set_option maxRecDepth 100000 in
theorem zd_305_4 : ∀ r ∈ zl_305_4, decode zm_305.1.2.1 r.1 = .ok (r.2.1, r.2.2.1) := by decide +kernel
set_option maxRecDepth 100000 in
theorem zq_305_4 : (zl_305_4.flatMap (zz_wr zt_hh zp_P zt_cl zm_305.1.1.cls)).map some = ([1842, 1840, 1840, 1843, 2332, 168, 2330] : List Nat).map (fun i => lw_tbl[i]?) := by rfl
set_option maxRecDepth 100000 in
theorem zg_305_4 : (zl_305_4.flatMap (zz_wr zt_hh zp_P zt_cl zm_305.1.1.cls)).all goodWord = true := by decide +kernel
set_option maxRecDepth 100000 in
theorem zr_305_4 : (zl_305_4.flatMap (zz_wn zp_P zm_305.1.1.cls)).map some = ([] : List Nat).map (fun i => lw_tbl[i]?) := by rfl
set_option maxRecDepth 100000 in
theorem zs_305_4 : (zl_305_4.flatMap (zz_wn zp_P zm_305.1.1.cls)).all zz_isN = true := by decide +kernel
set_option maxRecDepth 100000 in
theorem zb_305_4 : zl_305_4.all (fun r => zz_wb zt_hh zp_P zt_cl zt_tf zt_fd zt_nf zm_305.1.1.cls zm_305.1.1.name r) = true := by decide +kernel
set_option maxRecDepth 100000 in
theorem zy_305_0 : zl_305_0.all (fun r => zz_tb zt_hh zp_P zm_305 r) = true := by decide +kernel
set_option maxRecDepth 100000 in
theorem zy_305_1 : zl_305_1.all (fun r => zz_tb zt_hh zp_P zm_305 r) = true := by decide +kernel
set_option maxRecDepth 100000 in
theorem zy_305_2 : zl_305_2.all (fun r => zz_tb zt_hh zp_P zm_305 r) = true := by decide +kernel
set_option maxRecDepth 100000 in
theorem zy_305_3 : zl_305_3.all (fun r => zz_tb zt_hh zp_P zm_305 r) = true := by decide +kernel
set_option maxRecDepth 100000 in
theorem zy_305_4 : zl_305_4.all (fun r => zz_tb zt_hh zp_P zm_305 r) = true := by decide +kernel
theorem zw_305 : zz_okW zt_hh zp_P zt_cl zt_tf zt_fd zt_nf zt_T zt_N zm_305 := List.forall_mem_cons.mpr ⟨(zz_w_okL zd_305_0 zb_305_0 (zz_places goodWord zq_305_0 zg_305_0) (zz_places zz_isN zr_305_0 zs_305_0) zy_305_0), List.forall_mem_cons.mpr ⟨(zz_w_okL zd_305_1 zb_305_1 (zz_places goodWord zq_305_1 zg_305_1) (zz_places zz_isN zr_305_1 zs_305_1) zy_305_1), List.forall_mem_cons.mpr ⟨(zz_w_okL zd_305_2 zb_305_2 (zz_places goodWord zq_305_2 zg_305_2) (zz_places zz_isN zr_305_2 zs_305_2) zy_305_2), List.forall_mem_cons.mpr ⟨(zz_w_okL zd_305_3 zb_305_3 (zz_places goodWord zq_305_3 zg_305_3) (zz_places zz_isN zr_305_3 zs_305_3) zy_305_3), List.forall_mem_cons.mpr ⟨(zz_w_okL zd_305_4 zb_305_4 (zz_places goodWord zq_305_4 zg_305_4) (zz_places zz_isN zr_305_4 zs_305_4) zy_305_4), (fun _ h => absurd h List.not_mem_nil)⟩⟩⟩⟩⟩
set_option maxRecDepth 100000 in
theorem zq_305 : [zz_cw zt_hh zm_305, Cond.initialized zm_305.1.1.cls].map some = ([2305, 227] : List Nat).map (fun i => lw_tbl[i]?) := by rfl
set_option maxRecDepth 100000 in
theorem zg_305 : [zz_cw zt_hh zm_305, Cond.initialized zm_305.1.1.cls].all goodWord = true := by decide +kernel
set_option maxRecDepth 100000 in
theorem zb_305 : (plainName zm_305.1.1.cls && (decide (zm_305.1.1.cls ≠ "java/lang/invoke/MethodHandle" ∧ zm_305.1.1.cls ≠ "java/lang/invoke/VarHandle") && decide (zm_305.1.2.2.1 ≤ 40))) = true := by decide +kernel
theorem zo_305 : zz_okM zt_hh zp_P zt_cl zt_tf zt_fd zt_nf zt_T zt_N zm_305 := zz_w_okM zw_305 zb_305 (zz_places goodWord zq_305 zg_305)
set_option maxRecDepth 100000 in
theorem zd_306_0 : ∀ r ∈ zl_306_0, decode zm_306.1.2.1 r.1 = .ok (r.2.1, r.2.2.1) := by decide +kernel
set_option maxRecDepth 100000 in
theorem zq_306_0 : (zl_306_0.flatMap (zz_wr zt_hh zp_P zt_cl zm_306.1.1.cls)).map some = ([1843, 2328, 167, 2326, 1843, 1839, 1840, 1842, 1840, 1840, 1843, 2273, 154, 2271] : List Nat).map (fun i => lw_tbl[i]?) := by rfl
set_option maxRecDepth 100000 in
theorem zg_306_0 : (zl_306_0.flatMap (zz_wr zt_hh zp_P zt_cl zm_306.1.1.cls)).all goodWord = true := by decide +kernel
set_option maxRecDepth 100000 in
theorem zr_306_0 : (zl_306_0.flatMap (zz_wn zp_P zm_306.1.1.cls)).map some = ([] : List Nat).map (fun i => lw_tbl[i]?) := by rfl
set_option maxRecDepth 100000 in
theorem zs_306_0 : (zl_306_0.flatMap (zz_wn zp_P zm_306.1.1.cls)).all zz_isN = true := by decide +kernel
set_option maxRecDepth 100000 in
theorem zb_306_0 : zl_306_0.all (fun r => zz_wb zt_hh zp_P zt_cl zt_tf zt_fd zt_nf zm_306.1.1.cls zm_306.1.1.name r) = true := by decide +kernel
set_option maxRecDepth 100000 in
theorem zy_306_0 : zl_306_0.all (fun r => zz_tb zt_hh zp_P zm_306 r) = true := by decide +kernel
theorem zw_306 : zz_okW zt_hh zp_P zt_cl zt_tf zt_fd zt_nf zt_T zt_N zm_306 := List.forall_mem_cons.mpr ⟨(zz_w_okL zd_306_0 zb_306_0 (zz_places goodWord zq_306_0 zg_306_0) (zz_places zz_isN zr_306_0 zs_306_0) zy_306_0), (fun _ h => absurd h List.not_mem_nil)⟩
set_option maxRecDepth 100000 in
theorem zq_306 : [zz_cw zt_hh zm_306, Cond.initialized zm_306.1.1.cls].map some = ([2341, 227] : List Nat).map (fun i => lw_tbl[i]?) := by rfl
set_option maxRecDepth 100000 in
theorem zg_306 : [zz_cw zt_hh zm_306, Cond.initialized zm_306.1.1.cls].all goodWord = true := by decide +kernel
set_option maxRecDepth 100000 in
theorem zb_306 : (plainName zm_306.1.1.cls && (decide (zm_306.1.1.cls ≠ "java/lang/invoke/MethodHandle" ∧ zm_306.1.1.cls ≠ "java/lang/invoke/VarHandle") && decide (zm_306.1.2.2.1 ≤ 40))) = true := by decide +kernel
theorem zo_306 : zz_okM zt_hh zp_P zt_cl zt_tf zt_fd zt_nf zt_T zt_N zm_306 := zz_w_okM zw_306 zb_306 (zz_places goodWord zq_306 zg_306)
set_option maxRecDepth 100000 in
theorem zd_307_0 : ∀ r ∈ zl_307_0, decode zm_307.1.2.1 r.1 = .ok (r.2.1, r.2.2.1) := by decide +kernel
set_option maxRecDepth 100000 in
theorem zq_307_0 : (zl_307_0.flatMap (zz_wr zt_hh zp_P zt_cl zm_307.1.1.cls)).map some = ([1863, 1864, 1869, 1865, 1870, 1865] : List Nat).map (fun i => lw_tbl[i]?) := by rfl
set_option maxRecDepth 100000 in
theorem zg_307_0 : (zl_307_0.flatMap (zz_wr zt_hh zp_P zt_cl zm_307.1.1.cls)).all goodWord = true := by decide +kernel
set_option maxRecDepth 100000 in
theorem zr_307_0 : (zl_307_0.flatMap (zz_wn zp_P zm_307.1.1.cls)).map some = ([] : List Nat).map (fun i => lw_tbl[i]?) := by rfl
set_option maxRecDepth 100000 in
theorem zs_307_0 : (zl_307_0.flatMap (zz_wn zp_P zm_307.1.1.cls)).all zz_isN = true := by decide +kernel
set_option maxRecDepth 100000 in
theorem zb_307_0 : zl_307_0.all (fun r => zz_wb zt_hh zp_P zt_cl zt_tf zt_fd zt_nf zm_307.1.1.cls zm_307.1.1.name r) = true := by decide +kernel
set_option maxRecDepth 100000 in
theorem zd_307_1 : ∀ r ∈ zl_307_1, decode zm_307.1.2.1 r.1 = .ok (r.2.1, r.2.2.1) := by decide +kernel
set_option maxRecDepth 100000 in
theorem zq_307_1 : (zl_307_1.flatMap (zz_wr zt_hh zp_P zt_cl zm_307.1.1.cls)).map some = ([] : List Nat).map (fun i => lw_tbl[i]?) := by rfl
set_option maxRecDepth 100000 in
theorem zg_307_1 : (zl_307_1.flatMap (zz_wr zt_hh zp_P zt_cl zm_307.1.1.cls)).all goodWord = true := by decide +kernel
set_option maxRecDepth 100000 in
theorem zr_307_1 : (zl_307_1.flatMap (zz_wn zp_P zm_307.1.1.cls)).map some = ([] : List Nat).map (fun i => lw_tbl[i]?) := by rfl
set_option maxRecDepth 100000 in
theorem zs_307_1 : (zl_307_1.flatMap (zz_wn zp_P zm_307.1.1.cls)).all zz_isN = true := by decide +kernel
set_option maxRecDepth 100000 in
theorem zb_307_1 : zl_307_1.all (fun r => zz_wb zt_hh zp_P zt_cl zt_tf zt_fd zt_nf zm_307.1.1.cls zm_307.1.1.name r) = true := by decide +kernel
set_option maxRecDepth 100000 in
theorem zy_307_0 : zl_307_0.all (fun r => zz_tb zt_hh zp_P zm_307 r) = true := by decide +kernel
set_option maxRecDepth 100000 in
theorem zy_307_1 : zl_307_1.all (fun r => zz_tb zt_hh zp_P zm_307 r) = true := by decide +kernel
theorem zw_307 : zz_okW zt_hh zp_P zt_cl zt_tf zt_fd zt_nf zt_T zt_N zm_307 := List.forall_mem_cons.mpr ⟨(zz_w_okL zd_307_0 zb_307_0 (zz_places goodWord zq_307_0 zg_307_0) (zz_places zz_isN zr_307_0 zs_307_0) zy_307_0), List.forall_mem_cons.mpr ⟨(zz_w_okL zd_307_1 zb_307_1 (zz_places goodWord zq_307_1 zg_307_1) (zz_places zz_isN zr_307_1 zs_307_1) zy_307_1), (fun _ h => absurd h List.not_mem_nil)⟩⟩
set_option maxRecDepth 100000 in
theorem zq_307 : [zz_cw zt_hh zm_307, Cond.initialized zm_307.1.1.cls].map some = ([2465, 227] : List Nat).map (fun i => lw_tbl[i]?) := by rfl
set_option maxRecDepth 100000 in
theorem zg_307 : [zz_cw zt_hh zm_307, Cond.initialized zm_307.1.1.cls].all goodWord = true := by decide +kernel
set_option maxRecDepth 100000 in
theorem zb_307 : (plainName zm_307.1.1.cls && (decide (zm_307.1.1.cls ≠ "java/lang/invoke/MethodHandle" ∧ zm_307.1.1.cls ≠ "java/lang/invoke/VarHandle") && decide (zm_307.1.2.2.1 ≤ 40))) = true := by decide +kernel
theorem zo_307 : zz_okM zt_hh zp_P zt_cl zt_tf zt_fd zt_nf zt_T zt_N zm_307 := zz_w_okM zw_307 zb_307 (zz_places goodWord zq_307 zg_307)
set_option maxRecDepth 100000 in
theorem zd_308_0 : ∀ r ∈ zl_308_0, decode zm_308.1.2.1 r.1 = .ok (r.2.1, r.2.2.1) := by decide +kernel
set_option maxRecDepth 100000 in
theorem zq_308_0 : (zl_308_0.flatMap (zz_wr zt_hh zp_P zt_cl zm_308.1.1.cls)).map some = ([1863, 1869, 1865] : List Nat).map (fun i => lw_tbl[i]?) := by rfl
set_option maxRecDepth 100000 in
theorem zg_308_0 : (zl_308_0.flatMap (zz_wr zt_hh zp_P zt_cl zm_308.1.1.cls)).all goodWord = true := by decide +kernel
set_option maxRecDepth 100000 in
theorem zr_308_0 : (zl_308_0.flatMap (zz_wn zp_P zm_308.1.1.cls)).map some = ([] : List Nat).map (fun i => lw_tbl[i]?) := by rfl
set_option maxRecDepth 100000 in
theorem zs_308_0 : (zl_308_0.flatMap (zz_wn zp_P zm_308.1.1.cls)).all zz_isN = true := by decide +kernel
set_option maxRecDepth 100000 in
theorem zb_308_0 : zl_308_0.all (fun r => zz_wb zt_hh zp_P zt_cl zt_tf zt_fd zt_nf zm_308.1.1.cls zm_308.1.1.name r) = true := by decide +kernel
set_option maxRecDepth 100000 in
theorem zy_308_0 : zl_308_0.all (fun r => zz_tb zt_hh zp_P zm_308 r) = true := by decide +kernel
theorem zw_308 : zz_okW zt_hh zp_P zt_cl zt_tf zt_fd zt_nf zt_T zt_N zm_308 := List.forall_mem_cons.mpr ⟨(zz_w_okL zd_308_0 zb_308_0 (zz_places goodWord zq_308_0 zg_308_0) (zz_places zz_isN zr_308_0 zs_308_0) zy_308_0), (fun _ h => absurd h List.not_mem_nil)⟩
set_option maxRecDepth 100000 in
theorem zq_308 : [zz_cw zt_hh zm_308, Cond.initialized zm_308.1.1.cls].map some = ([2278, 227] : List Nat).map (fun i => lw_tbl[i]?) := by rfl
set_option maxRecDepth 100000 in
theorem zg_308 : [zz_cw zt_hh zm_308, Cond.initialized zm_308.1.1.cls].all goodWord = true := by decide +kernel
set_option maxRecDepth 100000 in
theorem zb_308 : (plainName zm_308.1.1.cls && (decide (zm_308.1.1.cls ≠ "java/lang/invoke/MethodHandle" ∧ zm_308.1.1.cls ≠ "java/lang/invoke/VarHandle") && decide (zm_308.1.2.2.1 ≤ 40))) = true := by decide +kernel
theorem zo_308 : zz_okM zt_hh zp_P zt_cl zt_tf zt_fd zt_nf zt_T zt_N zm_308 := zz_w_okM zw_308 zb_308 (zz_places goodWord zq_308 zg_308)
set_option maxRecDepth 100000 in
theorem zd_309_0 : ∀ r ∈ zl_309_0, decode zm_309.1.2.1 r.1 = .ok (r.2.1, r.2.2.1) := by decide +kernel
set_option maxRecDepth 100000 in
theorem zq_309_0 : (zl_309_0.flatMap (zz_wr zt_hh zp_P zt_cl zm_309.1.1.cls)).map some = ([1864, 1870, 1865] : List Nat).map (fun i => lw_tbl[i]?) := by rfl
set_option maxRecDepth 100000 in
theorem zg_309_0 : (zl_309_0.flatMap (zz_wr zt_hh zp_P zt_cl zm_309.1.1.cls)).all goodWord = true := by decide +kernel
set_option maxRecDepth 100000 in
theorem zr_309_0 : (zl_309_0.flatMap (zz_wn zp_P zm_309.1.1.cls)).map some = ([] : List Nat).map (fun i => lw_tbl[i]?) := by rfl
set_option maxRecDepth 100000 in
theorem zs_309_0 : (zl_309_0.flatMap (zz_wn zp_P zm_309.1.1.cls)).all zz_isN = true := by decide +kernel
set_option maxRecDepth 100000 in
theorem zb_309_0 : zl_309_0.all (fun r => zz_wb zt_hh zp_P zt_cl zt_tf zt_fd zt_nf zm_309.1.1.cls zm_309.1.1.name r) = true := by decide +kernel
set_option maxRecDepth 100000 in
theorem zy_309_0 : zl_309_0.all (fun r => zz_tb zt_hh zp_P zm_309 r) = true := by decide +kernel
theorem zw_309 : zz_okW zt_hh zp_P zt_cl zt_tf zt_fd zt_nf zt_T zt_N zm_309 := List.forall_mem_cons.mpr ⟨(zz_w_okL zd_309_0 zb_309_0 (zz_places goodWord zq_309_0 zg_309_0) (zz_places zz_isN zr_309_0 zs_309_0) zy_309_0), (fun _ h => absurd h List.not_mem_nil)⟩
set_option maxRecDepth 100000 in
theorem zq_309 : [zz_cw zt_hh zm_309, Cond.initialized zm_309.1.1.cls].map some = ([2282, 227] : List Nat).map (fun i => lw_tbl[i]?) := by rfl
set_option maxRecDepth 100000 in
theorem zg_309 : [zz_cw zt_hh zm_309, Cond.initialized zm_309.1.1.cls].all goodWord = true := by decide +kernel
set_option maxRecDepth 100000 in
theorem zb_309 : (plainName zm_309.1.1.cls && (decide (zm_309.1.1.cls ≠ "java/lang/invoke/MethodHandle" ∧ zm_309.1.1.cls ≠ "java/lang/invoke/VarHandle") && decide (zm_309.1.2.2.1 ≤ 40))) = true := by decide +kernel
theorem zo_309 : zz_okM zt_hh zp_P zt_cl zt_tf zt_fd zt_nf zt_T zt_N zm_309 := zz_w_okM zw_309 zb_309 (zz_places goodWord zq_309 zg_309)
set_option maxRecDepth 100000 in
theorem zd_310_0 : ∀ r ∈ zl_310_0, decode zm_310.1.2.1 r.1 = .ok (r.2.1, r.2.2.1) := by decide +kernel
set_option maxRecDepth 100000 in
theorem zq_310_0 : (zl_310_0.flatMap (zz_wr zt_hh zp_P zt_cl zm_310.1.1.cls)).map some = ([1865, 1862, 2261, 151, 2259, 1843, 1869, 1865, 1841] : List Nat).map (fun i => lw_tbl[i]?) := by rfl
set_option maxRecDepth 100000 in
theorem zg_310_0 : (zl_310_0.flatMap (zz_wr zt_hh zp_P zt_cl zm_310.1.1.cls)).all goodWord = true := by decide +kernel
set_option maxRecDepth 100000 in
theorem zr_310_0 : (zl_310_0.flatMap (zz_wn zp_P zm_310.1.1.cls)).map some = ([] : List Nat).map (fun i => lw_tbl[i]?) := by rfl
set_option maxRecDepth 100000 in
theorem zs_310_0 : (zl_310_0.flatMap (zz_wn zp_P zm_310.1.1.cls)).all zz_isN = true := by decide +kernel
set_option maxRecDepth 100000 in
theorem zb_310_0 : zl_310_0.all (fun r => zz_wb zt_hh zp_P zt_cl zt_tf zt_fd zt_nf zm_310.1.1.cls zm_310.1.1.name r) = true := by decide +kernel
set_option maxRecDepth 100000 in
theorem zd_310_1 : ∀ r ∈ zl_310_1, decode zm_310.1.2.1 r.1 = .ok (r.2.1, r.2.2.1) := by decide +kernel
set_option maxRecDepth 100000 in
theorem zq_310_1 : (zl_310_1.flatMap (zz_wr zt_hh zp_P zt_cl zm_310.1.1.cls)).map some = ([1870, 1865, 1842, 1843, 1866, 1865, 1867, 1865, 1868] : List Nat).map (fun i => lw_tbl[i]?) := by rfl
set_option maxRecDepth 100000 in
theorem zg_310_1 : (zl_310_1.flatMap (zz_wr zt_hh zp_P zt_cl zm_310.1.1.cls)).all goodWord = true := by decide +kernel
set_option maxRecDepth 100000 in
theorem zr_310_1 : (zl_310_1.flatMap (zz_wn zp_P zm_310.1.1.cls)).map some = ([] : List Nat).map (fun i => lw_tbl[i]?) := by rfl
set_option maxRecDepth 100000 in
theorem zs_310_1 : (zl_310_1.flatMap (zz_wn zp_P zm_310.1.1.cls)).all zz_isN = true := by decide +kernel
set_option maxRecDepth 100000 in
theorem zb_310_1 : zl_310_1.all (fun r => zz_wb zt_hh zp_P zt_cl zt_tf zt_fd zt_nf zm_310.1.1.cls zm_310.1.1.name r) = true := by decide +kernel
set_option maxRecDepth 100000 in
theorem zd_310_2 : ∀ r ∈ zl_310_2, decode zm_310.1.2.1 r.1 = .ok (r.2.1, r.2.2.1) := by decide +kernel
set_option maxRecDepth 100000 in
theorem zq_310_2 : (zl_310_2.flatMap (zz_wr zt_hh zp_P zt_cl zm_310.1.1.cls)).map some = ([1865, 1871, 1865, 1865, 1865, 1855, 1865, 1855, 1855, 1812, 1861] : List Nat).map (fun i => lw_tbl[i]?) := by rfl
set_option maxRecDepth 100000 in
theorem zg_310_2 : (zl_310_2.flatMap (zz_wr zt_hh zp_P zt_cl zm_310.1.1.cls)).all goodWord = true := by decide +kernel
set_option maxRecDepth 100000 in
theorem zr_310_2 : (zl_310_2.flatMap (zz_wn zp_P zm_310.1.1.cls)).map some = ([] : List Nat).map (fun i => lw_tbl[i]?) := by rfl
set_option maxRecDepth 100000 in
theorem zs_310_2 : (zl_310_2.flatMap (zz_wn zp_P zm_310.1.1.cls)).all zz_isN = true := by decide +kernel
set_option maxRecDepth 100000 in
theorem zb_310_2 : zl_310_2.all (fun r => zz_wb zt_hh zp_P zt_cl zt_tf zt_fd zt_nf zm_310.1.1.cls zm_310.1.1.name r) = true := by decide +kernel
set_option maxRecDepth 100000 in
theorem zy_310_0 : zl_310_0.all (fun r => zz_tb zt_hh zp_P zm_310 r) = true := by decide +kernel
set_option maxRecDepth 100000 in
theorem zy_310_1 : zl_310_1.all (fun r => zz_tb zt_hh zp_P zm_310 r) = true := by decide +kernel
set_option maxRecDepth 100000 in
theorem zy_310_2 : zl_310_2.all (fun r => zz_tb zt_hh zp_P zm_310 r) = true := by decide +kernel
theorem zw_310 : zz_okW zt_hh zp_P zt_cl zt_tf zt_fd zt_nf zt_T zt_N zm_310 := List.forall_mem_cons.mpr ⟨(zz_w_okL zd_310_0 zb_310_0 (zz_places goodWord zq_310_0 zg_310_0) (zz_places zz_isN zr_310_0 zs_310_0) zy_310_0), List.forall_mem_cons.mpr ⟨(zz_w_okL zd_310_1 zb_310_1 (zz_places goodWord zq_310_1 zg_310_1) (zz_places zz_isN zr_310_1 zs_310_1) zy_310_1), List.forall_mem_cons.mpr ⟨(zz_w_okL zd_310_2 zb_310_2 (zz_places goodWord zq_310_2 zg_310_2) (zz_places zz_isN zr_310_2 zs_310_2) zy_310_2), (fun _ h => absurd h List.not_mem_nil)⟩⟩⟩
set_option maxRecDepth 100000 in
theorem zq_310 : [zz_cw zt_hh zm_310, Cond.initialized zm_310.1.1.cls].map some = ([2258, 227] : List Nat).map (fun i => lw_tbl[i]?) := by rfl
set_option maxRecDepth 100000 in
theorem zg_310 : [zz_cw zt_hh zm_310, Cond.initialized zm_310.1.1.cls].all goodWord = true := by decide +kernel
set_option maxRecDepth 100000 in
theorem zb_310 : (plainName zm_310.1.1.cls && (decide (zm_310.1.1.cls ≠ "java/lang/invoke/MethodHandle" ∧ zm_310.1.1.cls ≠ "java/lang/invoke/VarHandle") && decide (zm_310.1.2.2.1 ≤ 40))) = true := by decide +kernel
theorem zo_310 : zz_okM zt_hh zp_P zt_cl zt_tf zt_fd zt_nf zt_T zt_N zm_310 := zz_w_okM zw_310 zb_310 (zz_places goodWord zq_310 zg_310)
set_option maxRecDepth 100000 in
theorem zd_311_0 : ∀ r ∈ zl_311_0, decode zm_311.1.2.1 r.1 = .ok (r.2.1, r.2.2.1) := by decide +kernel
set_option maxRecDepth 100000 in
theorem zq_311_0 : (zl_311_0.flatMap (zz_wr zt_hh zp_P zt_cl zm_311.1.1.cls)).map some = ([1872, 1871, 1873, 1871, 1874, 1871, 1875, 1871, 1876, 1871, 1877, 1871, 1865, 1871] : List Nat).map (fun i => lw_tbl[i]?) := by rfl
set_option maxRecDepth 100000 in
theorem zg_311_0 : (zl_311_0.flatMap (zz_wr zt_hh zp_P zt_cl zm_311.1.1.cls)).all goodWord = true := by decide +kernel
set_option maxRecDepth 100000 in
theorem zr_311_0 : (zl_311_0.flatMap (zz_wn zp_P zm_311.1.1.cls)).map some = ([] : List Nat).map (fun i => lw_tbl[i]?) := by rfl
set_option maxRecDepth 100000 in
theorem zs_311_0 : (zl_311_0.flatMap (zz_wn zp_P zm_311.1.1.cls)).all zz_isN = true := by decide +kernel
set_option maxRecDepth 100000 in
theorem zb_311_0 : zl_311_0.all (fun r => zz_wb zt_hh zp_P zt_cl zt_tf zt_fd zt_nf zm_311.1.1.cls zm_311.1.1.name r) = true := by decide +kernel
set_option maxRecDepth 100000 in
theorem zd_311_1 : ∀ r ∈ zl_311_1, decode zm_311.1.2.1 r.1 = .ok (r.2.1, r.2.2.1) := by decide +kernel
set_option maxRecDepth 100000 in
theorem zq_311_1 : (zl_311_1.flatMap (zz_wr zt_hh zp_P zt_cl zm_311.1.1.cls)).map some = ([1871] : List Nat).map (fun i => lw_tbl[i]?) := by rfl
set_option maxRecDepth 100000 in
theorem zg_311_1 : (zl_311_1.flatMap (zz_wr zt_hh zp_P zt_cl zm_311.1.1.cls)).all goodWord = true := by decide +kernel
set_option maxRecDepth 100000 in
theorem zr_311_1 : (zl_311_1.flatMap (zz_wn zp_P zm_311.1.1.cls)).map some = ([] : List Nat).map (fun i => lw_tbl[i]?) := by rfl
set_option maxRecDepth 100000 in
theorem zs_311_1 : (zl_311_1.flatMap (zz_wn zp_P zm_311.1.1.cls)).all zz_isN = true := by decide +kernel
set_option maxRecDepth 100000 in
theorem zb_311_1 : zl_311_1.all (fun r => zz_wb zt_hh zp_P zt_cl zt_tf zt_fd zt_nf zm_311.1.1.cls zm_311.1.1.name r) = true := by decide +kernel
set_option maxRecDepth 100000 in
theorem zy_311_0 : zl_311_0.all (fun r => zz_tb zt_hh zp_P zm_311 r) = true := by decide +kernel
set_option maxRecDepth 100000 in
theorem zy_311_1 : zl_311_1.all (fun r => zz_tb zt_hh zp_P zm_311 r) = true := by decide +kernel
theorem zw_311 : zz_okW zt_hh zp_P zt_cl zt_tf zt_fd zt_nf zt_T zt_N zm_311 := List.forall_mem_cons.mpr ⟨(zz_w_okL zd_311_0 zb_311_0 (zz_places goodWord zq_311_0 zg_311_0) (zz_places zz_isN zr_311_0 zs_311_0) zy_311_0), List.forall_mem_cons.mpr ⟨(zz_w_okL zd_311_1 zb_311_1 (zz_places goodWord zq_311_1 zg_311_1) (zz_places zz_isN zr_311_1 zs_311_1) zy_311_1), (fun _ h => absurd h List.not_mem_nil)⟩⟩
set_option maxRecDepth 100000 in
theorem zq_311 : [zz_cw zt_hh zm_311, Cond.initialized zm_311.1.1.cls].map some = ([2457, 227] : List Nat).map (fun i => lw_tbl[i]?) := by rfl
set_option maxRecDepth 100000 in
theorem zg_311 : [zz_cw zt_hh zm_311, Cond.initialized zm_311.1.1.cls].all goodWord = true := by decide +kernel
set_option maxRecDepth 100000 in
theorem zb_311 : (plainName zm_311.1.1.cls && (decide (zm_311.1.1.cls ≠ "java/lang/invoke/MethodHandle" ∧ zm_311.1.1.cls ≠ "java/lang/invoke/VarHandle") && decide (zm_311.1.2.2.1 ≤ 40))) = true := by decide +kernel
theorem zo_311 : zz_okM zt_hh zp_P zt_cl zt_tf zt_fd zt_nf zt_T zt_N zm_311 := zz_w_okM zw_311 zb_311 (zz_places goodWord zq_311 zg_311)
set_option maxRecDepth 100000 in
theorem zd_312_0 : ∀ r ∈ zl_312_0, decode zm_312.1.2.1 r.1 = .ok (r.2.1, r.2.2.1) := by decide +kernel
set_option maxRecDepth 100000 in
theorem zq_312_0 : (zl_312_0.flatMap (zz_wr zt_hh zp_P zt_cl zm_312.1.1.cls)).map some = ([1858, 1871, 1872, 1858, 1857, 1858, 1871] : List Nat).map (fun i => lw_tbl[i]?) := by rfl
set_option maxRecDepth 100000 in
theorem zg_312_0 : (zl_312_0.flatMap (zz_wr zt_hh zp_P zt_cl zm_312.1.1.cls)).all goodWord = true := by decide +kernel
set_option maxRecDepth 100000 in
theorem zr_312_0 : (zl_312_0.flatMap (zz_wn zp_P zm_312.1.1.cls)).map some = ([] : List Nat).map (fun i => lw_tbl[i]?) := by rfl
set_option maxRecDepth 100000 in
theorem zs_312_0 : (zl_312_0.flatMap (zz_wn zp_P zm_312.1.1.cls)).all zz_isN = true := by decide +kernel
set_option maxRecDepth 100000 in
theorem zb_312_0 : zl_312_0.all (fun r => zz_wb zt_hh zp_P zt_cl zt_tf zt_fd zt_nf zm_312.1.1.cls zm_312.1.1.name r) = true := by decide +kernel
set_option maxRecDepth 100000 in
theorem zd_312_1 : ∀ r ∈ zl_312_1, decode zm_312.1.2.1 r.1 = .ok (r.2.1, r.2.2.1) := by decide +kernel
set_option maxRecDepth 100000 in
theorem zq_312_1 : (zl_312_1.flatMap (zz_wr zt_hh zp_P zt_cl zm_312.1.1.cls)).map some = ([1877, 1865, 1876, 1843, 1873, 1861, 1856, 1856, 1858, 1859, 1854, 1854, 1874] : List Nat).map (fun i => lw_tbl[i]?) := by rfl
set_option maxRecDepth 100000 in
theorem zg_312_1 : (zl_312_1.flatMap (zz_wr zt_hh zp_P zt_cl zm_312.1.1.cls)).all goodWord = true := by decide +kernel
set_option maxRecDepth 100000 in
theorem zr_312_1 : (zl_312_1.flatMap (zz_wn zp_P zm_312.1.1.cls)).map some = ([] : List Nat).map (fun i => lw_tbl[i]?) := by rfl
set_option maxRecDepth 100000 in
theorem zs_312_1 : (zl_312_1.flatMap (zz_wn zp_P zm_312.1.1.cls)).all zz_isN = true := by decide +kernel
set_option maxRecDepth 100000 in
theorem zb_312_1 : zl_312_1.all (fun r => zz_wb zt_hh zp_P zt_cl zt_tf zt_fd zt_nf zm_312.1.1.cls zm_312.1.1.name r) = true := by decide +kernel
set_option maxRecDepth 100000 in
theorem zd_312_2 : ∀ r ∈ zl_312_2, decode zm_312.1.2.1 r.1 = .ok (r.2.1, r.2.2.1) := by decide +kernel
set_option maxRecDepth 100000 in
theorem zq_312_2 : (zl_312_2.flatMap (zz_wr zt_hh zp_P zt_cl zm_312.1.1.cls)).map some = ([2464, 198, 2462, 1854, 1875, 2261, 151, 2259, 1858] : List Nat).map (fun i => lw_tbl[i]?) := by rfl
set_option maxRecDepth 100000 in
theorem zg_312_2 : (zl_312_2.flatMap (zz_wr zt_hh zp_P zt_cl zm_312.1.1.cls)).all goodWord = true := by decide +kernel
set_option maxRecDepth 100000 in
theorem zr_312_2 : (zl_312_2.flatMap (zz_wn zp_P zm_312.1.1.cls)).map some = ([] : List Nat).map (fun i => lw_tbl[i]?) := by rfl
set_option maxRecDepth 100000 in
theorem zs_312_2 : (zl_312_2.flatMap (zz_wn zp_P zm_312.1.1.cls)).all zz_isN = true := by decide +kernel
set_option maxRecDepth 100000 in
theorem zb_312_2 : zl_312_2.all (fun r => zz_wb zt_hh zp_P zt_cl zt_tf zt_fd zt_nf zm_312.1.1.cls zm_312.1.1.name r) = true := by decide +kernel
set_option maxRecDepth 100000 in
theorem zy_312_0 : zl_312_0.all (fun r => zz_tb zt_hh zp_P zm_312 r) = true := by decide +kernel
set_option maxRecDepth 100000 in
theorem zy_312_1 : zl_312_1.all (fun r => zz_tb zt_hh zp_P zm_312 r) = true := by decide +kernel
set_option maxRecDepth 100000 in
theorem zy_312_2 : zl_312_2.all (fun r => zz_tb zt_hh zp_P zm_312 r) = true := by decide +kernel
theorem zw_312 : zz_okW zt_hh zp_P zt_cl zt_tf zt_fd zt_nf zt_T zt_N zm_312 := List.forall_mem_cons.mpr ⟨(zz_w_okL zd_312_0 zb_312_0 (zz_places goodWord zq_312_0 zg_312_0) (zz_places zz_isN zr_312_0 zs_312_0) zy_312_0), List.forall_mem_cons.mpr ⟨(zz_w_okL zd_312_1 zb_312_1 (zz_places goodWord zq_312_1 zg_312_1) (zz_places zz_isN zr_312_1 zs_312_1) zy_312_1), List.forall_mem_cons.mpr ⟨(zz_w_okL zd_312_2 zb_312_2 (zz_places goodWord zq_312_2 zg_312_2) (zz_places zz_isN zr_312_2 zs_312_2) zy_312_2), (fun _ h => absurd h List.not_mem_nil)⟩⟩⟩
set_option maxRecDepth 100000 in
theorem zq_312 : [zz_cw zt_hh zm_312, Cond.initialized zm_312.1.1.cls].map some = ([2502, 227] : List Nat).map (fun i => lw_tbl[i]?) := by rfl
set_option maxRecDepth 100000 in
theorem zg_312 : [zz_cw zt_hh zm_312, Cond.initialized zm_312.1.1.cls].all goodWord = true := by decide +kernel
set_option maxRecDepth 100000 in
theorem zb_312 : (plainName zm_312.1.1.cls && (decide (zm_312.1.1.cls ≠ "java/lang/invoke/MethodHandle" ∧ zm_312.1.1.cls ≠ "java/lang/invoke/VarHandle") && decide (zm_312.1.2.2.1 ≤ 40))) = true := by decide +kernel
theorem zo_312 : zz_okM zt_hh zp_P zt_cl zt_tf zt_fd zt_nf zt_T zt_N zm_312 := zz_w_okM zw_312 zb_312 (zz_places goodWord zq_312 zg_312)
set_option maxRecDepth 100000 in
theorem zd_313_0 : ∀ r ∈ zl_313_0, decode zm_313.1.2.1 r.1 = .ok (r.2.1, r.2.2.1) := by decide +kernel
