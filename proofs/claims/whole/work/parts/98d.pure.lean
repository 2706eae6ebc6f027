/-! ===== PURE: run (81): one order; which act, which order ===== -/
section ORD
variable {N : Nat} {X : Nat → Option zz_C} {t t' t1 t2 : cS} {s s1 s2 : mS} {code : List Ins} {Fs : List Fn} {h m pr k d F : Nat} {a b c pl x2 y0 y1 g q o : Int32} {v v' : Int64}
/-- the reference's order -/
theorem r_fet (hE : rEv s h code Fs) (hl : rl code ≤ 1610) (hd : s.1 73 = Int32.ofNat (d + 1)) (hd9 : d ≤ 9) (h66 : s.1 66 = Int32.ofNat 0) (hn : s.1 69 = Int32.ofNat (ob0 h + pr)) (hp : pr < (RA h code).length) (ha : (RA h code)[pr] = (o, a, b, c, pl)) : mf_68_L10 N (F + 1) 0 x2 s = mo_bv (mf_313 N (Int32.ofNat (ob0 h + pr)) (mI (mI s 69 (Int32.ofNat (ob0 h + pr + 1))) 70 pl)) (fun s2 => mf_68_305 N (mf_68_L10 N F) x2 s2) ∧ (s.2.2.1 23 (ob0 h + pr) = o ∧ s.2.2.1 24 (ob0 h + pr) = a ∧ s.2.2.1 25 (ob0 h + pr) = b ∧ s.2.2.1 26 (ob0 h + pr) = c) ∧ ob0 h + pr < 8000 := by
  obtain ⟨h1, h2, -⟩ := hE
  obtain ⟨d1, d2, d3, d4, d5⟩ := h2 pr hp
  rw [ha] at d1 d2 d3 d4 d5
  have hL := RA_len (e := h) (code := code)
  have ho : ob0 h ≤ 4000 := by unfold ob0; omega
  have d5 : s.2.2.1 27 (ob0 h + pr) = pl := d5
  refine ⟨?_, ⟨d1, d2, d3, d4⟩, by omega⟩
  have hlt : ob0 h + pr < 8000 := by omega
  show mf_68_258 N (mf_68_L10 N F) x2 s = _
  clear d1 d2 d3 d4 ha h2
  generalize ob0 h + pr = k at *
  have n1 : ¬ d + 1 ≤ 0 := by omega
  unfold mf_68_258 mf_68_265 mf_68_272
  simp (disch := omega) only [ev_S, ev_P, ↓reduceIte, Nat.reduceEqDiff, Nat.reduceLeDiff, Nat.reduceAdd, Nat.reduceMul, Nat.reduceSub, reduceCtorEq, l32_0, l32_1, l32_2, l32_3, l32_4, l32_5, l32_6, l32_7, l32_8, l32_9, l32_10, l32_11, l32_12, l32_13, l32_14, l32_15, l32_16, l32_17, l32_18, l32_19, l32_20, l32_21, l32_22, l32_23, l32_24, l32_25, l32_26, l32_27, l32_28, l32_29, l32_33, l32_40, l32_41, l32_44, l32_45, l32_59, l32_61, l32_91, l32_93, l32_123, l32_125, hd, n1, h66, hn, d5, l32_8000]
/-- the order is done, without a trouble -/
theorem r_ok (h1 : mf_313 N a s1 = some (s2, none)) (h66 : s2.1 66 = Int32.ofNat 0) : mo_bv (mf_313 N a s1) (fun s2 => mf_68_305 N (mf_68_L10 N F) x2 s2) = mf_68_L10 N F 0 x2 s2 := by
  unfold mf_68_305 mf_68_317
  simp (disch := omega) only [ev_S, ev_P, ↓reduceIte, Nat.reduceEqDiff, Nat.reduceLeDiff, Nat.reduceAdd, Nat.reduceMul, Nat.reduceSub, reduceCtorEq, l32_0, l32_1, l32_2, l32_3, l32_4, l32_5, l32_6, l32_7, l32_8, l32_9, l32_10, l32_11, l32_12, l32_13, l32_14, l32_15, l32_16, l32_17, l32_18, l32_19, l32_20, l32_21, l32_22, l32_23, l32_24, l32_25, l32_26, l32_27, l32_28, l32_29, l32_33, l32_40, l32_41, l32_44, l32_45, l32_59, l32_61, l32_91, l32_93, l32_123, l32_125, h1, h66]
/-- with one -/
theorem r_no (h1 : mf_313 N a s1 = some (s2, none)) (h66 : s2.1 66 = Int32.ofNat k) (hk : 0 < k ∧ k < 100) : mo_bv (mf_313 N a s1) (fun s2 => mf_68_305 N (mf_68_L10 N F) x2 s2) = mo_bi (mf_312 N s2) (fun s3 y => mf_68_L10 N F 0 x2 s3) := by
  have n1 : ¬ k ≤ 0 := by omega
  unfold mf_68_305 mf_68_312
  simp (disch := omega) only [ev_S, ev_P, ↓reduceIte, Nat.reduceEqDiff, Nat.reduceLeDiff, Nat.reduceAdd, Nat.reduceMul, Nat.reduceSub, reduceCtorEq, l32_0, l32_1, l32_2, l32_3, l32_4, l32_5, l32_6, l32_7, l32_8, l32_9, l32_10, l32_11, l32_12, l32_13, l32_14, l32_15, l32_16, l32_17, l32_18, l32_19, l32_20, l32_21, l32_22, l32_23, l32_24, l32_25, l32_26, l32_27, l32_28, l32_29, l32_33, l32_40, l32_41, l32_44, l32_45, l32_59, l32_61, l32_91, l32_93, l32_123, l32_125, h1, h66, n1]
  rfl
theorem g8 (hk : k < 8000) : ¬ (Int32.ofNat k < 0 ∨ 8000 ≤ Int32.toNatClampNeg (Int32.ofNat k)) := gd rfl hk (by omega)
theorem c8 (hk : k < 8000) : Int32.toNatClampNeg (Int32.ofNat k) = k := ev_c (by omega)
theorem r_op1 (hk : k < 8000) (h : s.2.2.1 23 k = Int32.ofNat 1) : mf_313 N (Int32.ofNat k) s = mf_313_116 N s := by
  unfold mf_313 mf_313_0
  rw [if_pos (g8 hk), c8 hk, h]
  rfl
theorem r_op2 (hk : k < 8000) (h : s.2.2.1 23 k = Int32.ofNat 2) : mf_313 N (Int32.ofNat k) s = mf_313_121 N (Int32.ofNat k) s := by
  unfold mf_313 mf_313_0
  rw [if_pos (g8 hk), c8 hk, h]
  rfl
theorem r_op3 (hk : k < 8000) (h : s.2.2.1 23 k = Int32.ofNat 3) : mf_313 N (Int32.ofNat k) s = mf_313_133 N (Int32.ofNat k) s := by
  unfold mf_313 mf_313_0
  rw [if_pos (g8 hk), c8 hk, h]
  rfl
theorem r_op4 (hk : k < 8000) (h : s.2.2.1 23 k = Int32.ofNat 4) : mf_313 N (Int32.ofNat k) s = mf_313_185 N (Int32.ofNat k) s := by
  unfold mf_313 mf_313_0
  rw [if_pos (g8 hk), c8 hk, h]
  rfl
theorem r_op5 (hk : k < 8000) (h : s.2.2.1 23 k = Int32.ofNat 5) : mf_313 N (Int32.ofNat k) s = mf_313_185 N (Int32.ofNat k) s := by
  unfold mf_313 mf_313_0
  rw [if_pos (g8 hk), c8 hk, h]
  rfl
theorem r_op6 (hk : k < 8000) (h : s.2.2.1 23 k = Int32.ofNat 6) : mf_313 N (Int32.ofNat k) s = mf_313_185 N (Int32.ofNat k) s := by
  unfold mf_313 mf_313_0
  rw [if_pos (g8 hk), c8 hk, h]
  rfl
theorem r_op7 (hk : k < 8000) (h : s.2.2.1 23 k = Int32.ofNat 7) : mf_313 N (Int32.ofNat k) s = mf_313_185 N (Int32.ofNat k) s := by
  unfold mf_313 mf_313_0
  rw [if_pos (g8 hk), c8 hk, h]
  rfl
theorem r_op8 (hk : k < 8000) (h : s.2.2.1 23 k = Int32.ofNat 8) : mf_313 N (Int32.ofNat k) s = mf_313_185 N (Int32.ofNat k) s := by
  unfold mf_313 mf_313_0
  rw [if_pos (g8 hk), c8 hk, h]
  rfl
theorem r_op9 (hk : k < 8000) (h : s.2.2.1 23 k = Int32.ofNat 9) : mf_313 N (Int32.ofNat k) s = mf_313_185 N (Int32.ofNat k) s := by
  unfold mf_313 mf_313_0
  rw [if_pos (g8 hk), c8 hk, h]
  rfl
theorem r_op10 (hk : k < 8000) (h : s.2.2.1 23 k = Int32.ofNat 10) : mf_313 N (Int32.ofNat k) s = mf_313_185 N (Int32.ofNat k) s := by
  unfold mf_313 mf_313_0
  rw [if_pos (g8 hk), c8 hk, h]
  rfl
theorem r_op11 (hk : k < 8000) (h : s.2.2.1 23 k = Int32.ofNat 11) : mf_313 N (Int32.ofNat k) s = mf_313_202 N (Int32.ofNat k) s := by
  unfold mf_313 mf_313_0
  rw [if_pos (g8 hk), c8 hk, h]
  rfl
theorem r_op12 (hk : k < 8000) (h : s.2.2.1 23 k = Int32.ofNat 12) : mf_313 N (Int32.ofNat k) s = mf_313_208 N (Int32.ofNat k) s := by
  unfold mf_313 mf_313_0
  rw [if_pos (g8 hk), c8 hk, h]
  rfl
theorem r_op13 (hk : k < 8000) (h : s.2.2.1 23 k = Int32.ofNat 13) : mf_313 N (Int32.ofNat k) s = mf_313_247 N (Int32.ofNat k) s := by
  unfold mf_313 mf_313_0
  rw [if_pos (g8 hk), c8 hk, h]
  rfl
theorem r_op14 (hk : k < 8000) (h : s.2.2.1 23 k = Int32.ofNat 14) : mf_313 N (Int32.ofNat k) s = mf_313_339 N (Int32.ofNat k) s := by
  unfold mf_313 mf_313_0
  rw [if_pos (g8 hk), c8 hk, h]
  rfl
theorem r_op15 (hk : k < 8000) (h : s.2.2.1 23 k = Int32.ofNat 15) : mf_313 N (Int32.ofNat k) s = mf_313_253 N (Int32.ofNat k) s := by
  unfold mf_313 mf_313_0
  rw [if_pos (g8 hk), c8 hk, h]
  rfl
theorem r_op16 (hk : k < 8000) (h : s.2.2.1 23 k = Int32.ofNat 16) : mf_313 N (Int32.ofNat k) s = mf_313_116 N s := by
  unfold mf_313 mf_313_0
  rw [if_pos (g8 hk), c8 hk, h]
  rfl
theorem r_op17 (hk : k < 8000) (h : s.2.2.1 23 k = Int32.ofNat 17) : mf_313 N (Int32.ofNat k) s = mf_313_339 N (Int32.ofNat k) s := by
  unfold mf_313 mf_313_0
  rw [if_pos (g8 hk), c8 hk, h]
  rfl
theorem r_op18 (hk : k < 8000) (h : s.2.2.1 23 k = Int32.ofNat 18) : mf_313 N (Int32.ofNat k) s = mf_313_264 N (Int32.ofNat k) s := by
  unfold mf_313 mf_313_0
  rw [if_pos (g8 hk), c8 hk, h]
  rfl
theorem r_op19 (hk : k < 8000) (h : s.2.2.1 23 k = Int32.ofNat 19) : mf_313 N (Int32.ofNat k) s = mf_313_339 N (Int32.ofNat k) s := by
  unfold mf_313 mf_313_0
  rw [if_pos (g8 hk), c8 hk, h]
  rfl
theorem r_op20 (hk : k < 8000) (h : s.2.2.1 23 k = Int32.ofNat 20) : mf_313 N (Int32.ofNat k) s = mf_313_339 N (Int32.ofNat k) s := by
  unfold mf_313 mf_313_0
  rw [if_pos (g8 hk), c8 hk, h]
  rfl
theorem r_op21 (hk : k < 8000) (h : s.2.2.1 23 k = Int32.ofNat 21) : mf_313 N (Int32.ofNat k) s = mf_313_339 N (Int32.ofNat k) s := by
  unfold mf_313 mf_313_0
  rw [if_pos (g8 hk), c8 hk, h]
  rfl
theorem r_op22 (hk : k < 8000) (h : s.2.2.1 23 k = Int32.ofNat 22) : mf_313 N (Int32.ofNat k) s = mf_313_270 N s := by
  unfold mf_313 mf_313_0
  rw [if_pos (g8 hk), c8 hk, h]
  rfl
theorem r_op23 (hk : k < 8000) (h : s.2.2.1 23 k = Int32.ofNat 23) : mf_313 N (Int32.ofNat k) s = mf_313_281 N (Int32.ofNat k) s := by
  unfold mf_313 mf_313_0
  rw [if_pos (g8 hk), c8 hk, h]
  rfl
theorem r_op24 (hk : k < 8000) (h : s.2.2.1 23 k = Int32.ofNat 24) : mf_313 N (Int32.ofNat k) s = mf_313_318 N (Int32.ofNat k) s := by
  unfold mf_313 mf_313_0
  rw [if_pos (g8 hk), c8 hk, h]
  rfl
theorem r_wk4 (hk : k < 8000) (h : s.2.2.1 23 k = Int32.ofNat 4) : mf_316 N (Int32.ofNat k) s = mf_316_44 N (Int32.ofNat k) s := by
  unfold mf_316 mf_316_0
  rw [if_pos (g8 hk), c8 hk, h]
  rfl
theorem r_wk5 (hk : k < 8000) (h : s.2.2.1 23 k = Int32.ofNat 5) : mf_316 N (Int32.ofNat k) s = mf_316_55 N (Int32.ofNat k) s := by
  unfold mf_316 mf_316_0
  rw [if_pos (g8 hk), c8 hk, h]
  rfl
theorem r_wk6 (hk : k < 8000) (h : s.2.2.1 23 k = Int32.ofNat 6) : mf_316 N (Int32.ofNat k) s = mf_316_66 N (Int32.ofNat k) s := by
  unfold mf_316 mf_316_0
  rw [if_pos (g8 hk), c8 hk, h]
  rfl
theorem r_wk7 (hk : k < 8000) (h : s.2.2.1 23 k = Int32.ofNat 7) : mf_316 N (Int32.ofNat k) s = mf_316_82 N s := by
  unfold mf_316 mf_316_0
  rw [if_pos (g8 hk), c8 hk, h]
  rfl
theorem r_wk8 (hk : k < 8000) (h : s.2.2.1 23 k = Int32.ofNat 8) : mf_316 N (Int32.ofNat k) s = mf_316_87 N (Int32.ofNat k) s := by
  unfold mf_316 mf_316_0
  rw [if_pos (g8 hk), c8 hk, h]
  rfl
theorem r_wk9 (hk : k < 8000) (h : s.2.2.1 23 k = Int32.ofNat 9) : mf_316 N (Int32.ofNat k) s = mf_316_109 N (Int32.ofNat k) s := by
  unfold mf_316 mf_316_0
  rw [if_pos (g8 hk), c8 hk, h]
  rfl
theorem r_wk10 (hk : k < 8000) (h : s.2.2.1 23 k = Int32.ofNat 10) : mf_316 N (Int32.ofNat k) s = mf_316_130 N (Int32.ofNat k) s := by
  unfold mf_316 mf_316_0
  rw [if_pos (g8 hk), c8 hk, h]
  rfl
theorem c_mv0 : cf_142 N X (Int32.ofNat 0) g q t = cf_142_131 N X g t := by
  unfold cf_142 cf_142_0
  rfl
theorem c_mv1 : cf_142 N X (Int32.ofNat 1) g q t = cf_142_143 N X g q t := by
  unfold cf_142 cf_142_0
  rfl
theorem c_mv2 : cf_142 N X (Int32.ofNat 2) g q t = cf_142_152 N X g t := by
  unfold cf_142 cf_142_0
  rfl
theorem c_mv3 : cf_142 N X (Int32.ofNat 3) g q t = cf_142_160 N X  t := by
  unfold cf_142 cf_142_0
  rfl
theorem c_mv4 : cf_142 N X (Int32.ofNat 4) g q t = cf_142_168 N X g t := by
  unfold cf_142 cf_142_0
  rfl
theorem c_mv5 : cf_142 N X (Int32.ofNat 5) g q t = cf_142_176 N X g q t := by
  unfold cf_142 cf_142_0
  rfl
theorem c_mv6 : cf_142 N X (Int32.ofNat 6) g q t = cf_142_185 N X q t := by
  unfold cf_142 cf_142_0
  rfl
theorem c_mv7 : cf_142 N X (Int32.ofNat 7) g q t = cf_142_201 N X  t := by
  unfold cf_142 cf_142_0
  rfl
theorem c_mv8 : cf_142 N X (Int32.ofNat 8) g q t = cf_142_228 N X  t := by
  unfold cf_142 cf_142_0
  rfl
theorem c_mv9 : cf_142 N X (Int32.ofNat 9) g q t = cf_142_235 N X q t := by
  unfold cf_142 cf_142_0
  rfl
theorem c_mv10 : cf_142 N X (Int32.ofNat 10) g q t = cf_142_243 N X g t := by
  unfold cf_142 cf_142_0
  rfl
theorem c_mv11 : cf_142 N X (Int32.ofNat 11) g q t = cf_142_251 N X g t := by
  unfold cf_142 cf_142_0
  rfl
theorem c_mv12 : cf_142 N X (Int32.ofNat 12) g q t = cf_142_273 N X q t := by
  unfold cf_142 cf_142_0
  rfl
theorem c_mv26 : cf_142 N X (Int32.ofNat 26) g q t = cf_142_128 N X  t := by
  unfold cf_142 cf_142_0
  rfl
theorem c_mv27 : cf_142 N X (Int32.ofNat 27) g q t = cf_142_193 N X g t := by
  unfold cf_142 cf_142_0
  rfl
theorem c_mv28 : cf_142 N X (Int32.ofNat 28) g q t = cf_142_281 N X g q t := by
  unfold cf_142 cf_142_0
  rfl
theorem c_wk13 : cf_143_19 N X (Int32.ofNat 13) g q v v' t = cf_143_265 N X g q t := by
  unfold cf_143_19
  rfl
theorem c_wk14 : cf_143_19 N X (Int32.ofNat 14) g q v v' t = cf_143_283 N X g t := by
  unfold cf_143_19
  rfl
theorem c_wk15 : cf_143_19 N X (Int32.ofNat 15) g q v v' t = cf_143_274 N X g q t := by
  unfold cf_143_19
  rfl
theorem c_wk16 : cf_143_19 N X (Int32.ofNat 16) g q v v' t = cf_143_291 N X g t := by
  unfold cf_143_19
  rfl
theorem c_wk17 : cf_143_19 N X (Int32.ofNat 17) g q v v' t = cf_143_223 N X q v v' t := by
  unfold cf_143_19
  rfl
theorem c_wk18 : cf_143_19 N X (Int32.ofNat 18) g q v v' t = cf_143_248 N X g q t := by
  unfold cf_143_19
  rfl
theorem c_wk19 : cf_143_19 N X (Int32.ofNat 19) g q v v' t = cf_143_88 N X g q v v' t := by
  unfold cf_143_19
  rfl
theorem c_wk20 : cf_143_19 N X (Int32.ofNat 20) g q v v' t = cf_143_177 N X g q t := by
  unfold cf_143_19
  rfl
theorem c_wk21 : cf_143_19 N X (Int32.ofNat 21) g q v v' t = cf_143_109 N X q v v' t := by
  unfold cf_143_19
  rfl
theorem c_wk22 : cf_143_19 N X (Int32.ofNat 22) g q v v' t = cf_143_129 N X g q v t := by
  unfold cf_143_19
  rfl
theorem c_wk23 : cf_143_19 N X (Int32.ofNat 23) g q v v' t = cf_143_152 N X g q v v' t := by
  unfold cf_143_19
  rfl
theorem c_wk24 : cf_143_19 N X (Int32.ofNat 24) g q v v' t = cf_143_200 N X g q t := by
  unfold cf_143_19
  rfl
theorem c_wk25 : cf_143_19 N X (Int32.ofNat 25) g q v v' t = cf_143_257 N X q t := by
  unfold cf_143_19
  rfl
end ORD
