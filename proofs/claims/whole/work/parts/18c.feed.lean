/-! ===== feed: the contracts of tapeFour and four ===== -/
def zf_b (v s : Int32) : Int32 := vp_nar (zz_ty 2) ((v >>> (s &&& 31)).toInt8.toInt32)
abbrev zf_i (t : Int32) : Int32 := t + Int32.ofInt 1
abbrev zf_s0 : Int32 := (Int8.ofInt 24).toInt32
abbrev zf_s1 : Int32 := zf_s0 + Int32.ofInt (-8)
abbrev zf_s2 : Int32 := zf_s1 + Int32.ofInt (-8)
abbrev zf_s3 : Int32 := zf_s2 + Int32.ofInt (-8)
abbrev zf_u (f : Nat → Int32) (t v s : Int32) : Nat → Int32 := upd f t.toNatClampNeg (zf_b v s)
def zf_f4 (f : Nat → Int32) (t v : Int32) : Nat → Int32 := zf_u (zf_u (zf_u (zf_u f t v zf_s0) (zf_i t) v zf_s1) (zf_i (zf_i t)) v zf_s2) (zf_i (zf_i (zf_i t))) v zf_s3
def zf_4 (t : Int32) : Int32 := zf_i (zf_i (zf_i (zf_i t)))
set_option maxRecDepth 10000 in
theorem zf_tx {X : Nat → Option zz_C} {h : zz_H} {tp x n d : Nat} {f : Nat → Int32} {fs : List Value} {t v : Int32} {Q : Option Value → zz_H → Prop} (hn : tp ≠ x) (ha : tp < h.length) (hb : x < h.length) (hao : tp < zz_out) (hbo : x < zz_out) (h0 : fs[0]? = some (.ref tp)) (h1 : 1 < fs.length) {s : Int32} (hs : zz_cond .lt s 0 = false) (hi : ¬ (t < 0 ∨ n ≤ t.toNatClampNeg)) (k : zz_E zp_P zt_tf zt_fd X d zm_2 3 [(2, .int (s + Int32.ofInt (-8))), (0, .ref x), (1, .int v)] [] (zw2 h tp x (.inl (2, n, .inl (zf_u f t v s))) (.inr (12, fs.set 1 (.int (zf_i t))))) Q) : zz_E zp_P zt_tf zt_fd X d zm_2 3 [(2, .int s), (0, .ref x), (1, .int v)] [] (zw2 h tp x (.inl (2, n, .inl f)) (.inr (12, fs.set 1 (.int t)))) Q := by
  refine zz_E.n 4 rfl rfl rfl ?_
  refine zz_E.jf 7 rfl hs (by decide) rfl ?_
  refine zz_E.n 8 rfl rfl rfl ?_
  refine zz_E.gf 11 rfl (zw2_b hb hbo) (by rw [List.getElem?_set_ne (by decide)]; exact h0) rfl ?_
  refine zz_E.n 12 rfl rfl rfl ?_
  refine zz_E.gf 15 rfl (zw2_b hb hbo) (by rw [List.getElem?_set_self h1]) rfl ?_
  refine zz_E.n 16 rfl rfl rfl ?_
  refine zz_E.n 17 rfl rfl rfl ?_
  refine zz_E.n 18 rfl rfl rfl ?_
  refine zz_E.n 19 rfl rfl rfl ?_
  refine zz_E.bast 20 rfl (zw2_a hn ha hao) (Or.inl rfl) hi rfl ?_
  rw [zw2_sa hn]
  refine zz_E.n 21 rfl rfl rfl ?_
  refine zz_E.n 22 rfl rfl rfl ?_
  refine zz_E.gf 25 rfl (zw2_b hb hbo) (by rw [List.getElem?_set_self h1]) rfl ?_
  refine zz_E.n 26 rfl rfl rfl ?_
  refine zz_E.n 27 rfl rfl rfl ?_
  refine zz_E.pf 30 rfl (zw2_b hb hbo) (by rw [List.length_set]; exact h1) rfl rfl ?_
  rw [zw2_sb, List.set_set]
  refine zz_E.n 33 rfl rfl rfl ?_
  refine zz_E.n 3 rfl rfl rfl ?_
  exact k
set_option maxRecDepth 10000 in
theorem zf_Tx {X : Nat → Option zz_C} {h : zz_H} {tp x n d : Nat} {f : Nat → Int32} {fs : List Value} {t v : Int32} {Q : Option Value → zz_H → Prop} (hn : tp ≠ x) (ha : tp < h.length) (hb : x < h.length) (hao : tp < zz_out) (hbo : x < zz_out) (h0 : fs[0]? = some (.ref tp)) (h1 : 1 < fs.length) (i0 : ¬ (t < 0 ∨ n ≤ t.toNatClampNeg)) (i1 : ¬ (zf_i t < 0 ∨ n ≤ (zf_i t).toNatClampNeg)) (i2 : ¬ (zf_i (zf_i t) < 0 ∨ n ≤ (zf_i (zf_i t)).toNatClampNeg)) (i3 : ¬ (zf_i (zf_i (zf_i t)) < 0 ∨ n ≤ (zf_i (zf_i (zf_i t))).toNatClampNeg)) (k : Q none (zw2 h tp x (.inl (2, n, .inl (zf_f4 f t v))) (.inr (12, fs.set 1 (.int (zf_4 t)))))) : zz_E zp_P zt_tf zt_fd X d zm_2 0 [(0, .ref x), (1, .int v)] [] (zw2 h tp x (.inl (2, n, .inl f)) (.inr (12, fs.set 1 (.int t)))) Q := by
  refine zz_E.n 2 rfl rfl rfl ?_
  refine zz_E.n 3 rfl rfl rfl ?_
  refine zf_tx hn ha hb hao hbo h0 h1 (s := zf_s0) (by decide) i0 ?_
  refine zf_tx hn ha hb hao hbo h0 h1 (s := zf_s1) (by decide) i1 ?_
  refine zf_tx hn ha hb hao hbo h0 h1 (s := zf_s2) (by decide) i2 ?_
  refine zf_tx hn ha hb hao hbo h0 h1 (s := zf_s3) (by decide) i3 ?_
  refine zz_E.n 4 rfl rfl rfl ?_
  refine zz_E.jt 36 rfl (by decide) (by decide) rfl ?_
  refine zz_E.ret rfl rfl rfl ?_
  exact k
set_option maxRecDepth 10000 in
theorem zf_tm {X : Nat → Option zz_C} {h : zz_H} {tp x n d : Nat} {f : Nat → Int32} {fs : List Value} {t v : Int32} {Q : Option Value → zz_H → Prop} (hn : tp ≠ x) (ha : tp < h.length) (hb : x < h.length) (hao : tp < zz_out) (hbo : x < zz_out) (h0 : fs[2]? = some (.ref tp)) (h1 : 3 < fs.length) {s : Int32} (hs : zz_cond .lt s 0 = false) (hi : ¬ (t < 0 ∨ n ≤ t.toNatClampNeg)) (k : zz_E zp_P zt_tf zt_fd X d zm_58 3 [(2, .int (s + Int32.ofInt (-8))), (0, .ref x), (1, .int v)] [] (zw2 h tp x (.inl (2, n, .inl (zf_u f t v s))) (.inr (13, fs.set 3 (.int (zf_i t))))) Q) : zz_E zp_P zt_tf zt_fd X d zm_58 3 [(2, .int s), (0, .ref x), (1, .int v)] [] (zw2 h tp x (.inl (2, n, .inl f)) (.inr (13, fs.set 3 (.int t)))) Q := by
  refine zz_E.n 4 rfl rfl rfl ?_
  refine zz_E.jf 7 rfl hs (by decide) rfl ?_
  refine zz_E.n 8 rfl rfl rfl ?_
  refine zz_E.gf 11 rfl (zw2_b hb hbo) (by rw [List.getElem?_set_ne (by decide)]; exact h0) rfl ?_
  refine zz_E.n 12 rfl rfl rfl ?_
  refine zz_E.gf 15 rfl (zw2_b hb hbo) (by rw [List.getElem?_set_self h1]) rfl ?_
  refine zz_E.n 16 rfl rfl rfl ?_
  refine zz_E.n 17 rfl rfl rfl ?_
  refine zz_E.n 18 rfl rfl rfl ?_
  refine zz_E.n 19 rfl rfl rfl ?_
  refine zz_E.bast 20 rfl (zw2_a hn ha hao) (Or.inl rfl) hi rfl ?_
  rw [zw2_sa hn]
  refine zz_E.n 21 rfl rfl rfl ?_
  refine zz_E.n 22 rfl rfl rfl ?_
  refine zz_E.gf 25 rfl (zw2_b hb hbo) (by rw [List.getElem?_set_self h1]) rfl ?_
  refine zz_E.n 26 rfl rfl rfl ?_
  refine zz_E.n 27 rfl rfl rfl ?_
  refine zz_E.pf 30 rfl (zw2_b hb hbo) (by rw [List.length_set]; exact h1) rfl rfl ?_
  rw [zw2_sb, List.set_set]
  refine zz_E.n 33 rfl rfl rfl ?_
  refine zz_E.n 3 rfl rfl rfl ?_
  exact k
set_option maxRecDepth 10000 in
theorem zf_Tm {X : Nat → Option zz_C} {h : zz_H} {tp x n d : Nat} {f : Nat → Int32} {fs : List Value} {t v : Int32} {Q : Option Value → zz_H → Prop} (hn : tp ≠ x) (ha : tp < h.length) (hb : x < h.length) (hao : tp < zz_out) (hbo : x < zz_out) (h0 : fs[2]? = some (.ref tp)) (h1 : 3 < fs.length) (i0 : ¬ (t < 0 ∨ n ≤ t.toNatClampNeg)) (i1 : ¬ (zf_i t < 0 ∨ n ≤ (zf_i t).toNatClampNeg)) (i2 : ¬ (zf_i (zf_i t) < 0 ∨ n ≤ (zf_i (zf_i t)).toNatClampNeg)) (i3 : ¬ (zf_i (zf_i (zf_i t)) < 0 ∨ n ≤ (zf_i (zf_i (zf_i t))).toNatClampNeg)) (k : Q none (zw2 h tp x (.inl (2, n, .inl (zf_f4 f t v))) (.inr (13, fs.set 3 (.int (zf_4 t)))))) : zz_E zp_P zt_tf zt_fd X d zm_58 0 [(0, .ref x), (1, .int v)] [] (zw2 h tp x (.inl (2, n, .inl f)) (.inr (13, fs.set 3 (.int t)))) Q := by
  refine zz_E.n 2 rfl rfl rfl ?_
  refine zz_E.n 3 rfl rfl rfl ?_
  refine zf_tm hn ha hb hao hbo h0 h1 (s := zf_s0) (by decide) i0 ?_
  refine zf_tm hn ha hb hao hbo h0 h1 (s := zf_s1) (by decide) i1 ?_
  refine zf_tm hn ha hb hao hbo h0 h1 (s := zf_s2) (by decide) i2 ?_
  refine zf_tm hn ha hb hao hbo h0 h1 (s := zf_s3) (by decide) i3 ?_
  refine zz_E.n 4 rfl rfl rfl ?_
  refine zz_E.jt 36 rfl (by decide) (by decide) rfl ?_
  refine zz_E.ret rfl rfl rfl ?_
  exact k
