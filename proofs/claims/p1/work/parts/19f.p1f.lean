/-! ===== p1: feed on a fresh object ===== -/
def zv_fs (c : Option zz_C) : List Value := match c with
  | some (.inr (_, fs)) => fs
  | _ => []
abbrev zv_fs12 : List Value := zv_fs (zv_h[0]?)
abbrev zv_fs13 : List Value := zv_fs (zv_h[61]?)
theorem zv_e12 : zv_h = zw2 zv_h 1 0 (.inl (2, 320, .inl fun _ => 0)) (.inr (12, zv_fs12.set 1 (.int 0))) := by rfl
theorem zv_e13 (c d : zz_C) : zw2 zv_h 1 0 c d = zw2 (zw2 zv_h 1 0 c d) 64 61 (.inl (2, 1620, .inl fun _ => 0)) (.inr (13, zv_fs13.set 3 (.int 0))) := by rfl
theorem zw2_len {h : zz_H} {a b : Nat} {c d : zz_C} : (zw2 h a b c d).length = h.length := by
  unfold zw2
  rw [List.length_set, List.length_set]
theorem zw2_sl {nf : Nat → Nat} {h : zz_H} {a b : Nat} {c d x y : zz_C} (ha : h[a]? = some x) (hb : h[b]? = some y) (hn : a ≠ b) (hc : zz_sz nf c = zz_sz nf x) (hd : zz_sz nf d = zz_sz nf y) : zz_sl nf (zw2 h a b c d) = zz_sl nf h := by
  unfold zw2
  rw [zz_sl_set (x0 := y) (by rw [List.getElem?_set_ne hn]; exact hb) hd, zz_sl_set ha hc]
theorem zv_site {h : zz_H} {x ci cp : Nat} {v : Int32} {fs : List Value} (ha : zz_at h x = some (.inr (ci, fs))) : zz_site (.invokevirtual cp) 1 ci [.int v, .ref x] h = some ([.ref x, .int v], []) := by
  unfold zz_site
  simp only [List.drop_succ_cons, List.drop_zero, ha]
  simp [zz_cats]
set_option maxRecDepth 100000 in
set_option maxHeartbeats 1600000 in
theorem zv_Fx {X : Nat → Option zz_C} {h : zz_H} {tp x n d : Nat} {f : Nat → Int32} {fs : List Value} {a b c e g : Int32} {Q : Option Value → zz_H → Prop} (hn : tp ≠ x) (ha : tp < h.length) (hb : x < h.length) (hao : tp < zz_out) (hbo : x < zz_out) (h0 : fs[0]? = some (.ref tp)) (h1 : 1 < fs.length) (hN : n = 320 ∨ n = 1620) (k : Q (some (.int (zf_4 (zf_4 (zf_4 (zf_4 (zf_4 0))))))) (zw2 h tp x (.inl (2, n, .inl (zf_f4 (zf_f4 (zf_f4 (zf_f4 (zf_f4 f 0 a) (zf_4 0) b) (zf_4 (zf_4 0)) c) (zf_4 (zf_4 (zf_4 0))) e) (zf_4 (zf_4 (zf_4 (zf_4 0)))) g))) (.inr (12, fs.set 1 (.int (zf_4 (zf_4 (zf_4 (zf_4 (zf_4 0)))))))))) : zz_E zp_P zt_tf zt_fd X (d + 1) zm_1 0 [(0, .ref x), (1, .int a), (2, .int b), (3, .int c), (4, .int e), (5, .int g)] [] (zw2 h tp x (.inl (2, n, .inl f)) (.inr (12, fs.set 1 (.int 0)))) Q := by
  refine zz_E.n 1 rfl rfl rfl ?_
  refine zz_E.gf 4 rfl (zw2_b hb hbo) (by rw [List.getElem?_set_self h1]) rfl ?_
  refine zz_E.n 6 rfl rfl rfl ?_
  refine zz_E.n 7 rfl rfl rfl ?_
  refine zz_E.n 10 rfl rfl rfl ?_
  refine zz_E.kt 15 rfl (by decide +kernel) (by decide) rfl ?_
  refine zz_E.n 16 rfl rfl rfl ?_
  refine zz_E.gf 19 rfl (zw2_b hb hbo) (by rw [List.getElem?_set_self h1]) rfl ?_
  refine zz_E.n 21 rfl rfl rfl ?_
  refine zz_E.n 22 rfl rfl rfl ?_
  refine zz_E.n 23 rfl rfl rfl ?_
  refine zz_E.gf 26 rfl (zw2_b hb hbo) (by rw [List.getElem?_set_ne (by decide)]; exact h0) rfl ?_
  refine zz_E.al 27 rfl (zz_rd_at (zw2_a hn ha hao)) (Or.inl (by decide)) rfl ?_
  refine zz_E.kt 54 rfl (by rcases hN with q | q <;> (rw [q]; decide +kernel)) (by decide) rfl ?_
  refine zz_E.n 55 rfl rfl rfl ?_
  refine zz_E.n 56 rfl rfl rfl ?_
  refine zz_E.cl (M' := zm_2) (as := [.ref x, .int a]) (rest := []) 59 rfl rfl (by decide) (zv_site (zw2_b hb hbo)) rfl ⟨rfl, Nat.le_of_ble_eq_true rfl⟩ rfl ?_
  refine zf_Tx hn ha hb hao hbo h0 h1 (by rcases hN with q | q <;> (rw [q]; decide +kernel)) (by rcases hN with q | q <;> (rw [q]; decide +kernel)) (by rcases hN with q | q <;> (rw [q]; decide +kernel)) (by rcases hN with q | q <;> (rw [q]; decide +kernel)) ?_
  show zz_E zp_P zt_tf zt_fd X (d + 1) zm_1 59 [(0, .ref x), (1, .int a), (2, .int b), (3, .int c), (4, .int e), (5, .int g)] [] (zw2 h tp x (.inl (2, n, .inl (zf_f4 f 0 a))) (.inr (12, fs.set 1 (.int (zf_4 0))))) Q
  refine zz_E.n 60 rfl rfl rfl ?_
  refine zz_E.n 61 rfl rfl rfl ?_
  refine zz_E.cl (M' := zm_2) (as := [.ref x, .int b]) (rest := []) 64 rfl rfl (by decide) (zv_site (zw2_b hb hbo)) rfl ⟨rfl, Nat.le_of_ble_eq_true rfl⟩ rfl ?_
  refine zf_Tx hn ha hb hao hbo h0 h1 (by rcases hN with q | q <;> (rw [q]; decide +kernel)) (by rcases hN with q | q <;> (rw [q]; decide +kernel)) (by rcases hN with q | q <;> (rw [q]; decide +kernel)) (by rcases hN with q | q <;> (rw [q]; decide +kernel)) ?_
  show zz_E zp_P zt_tf zt_fd X (d + 1) zm_1 64 [(0, .ref x), (1, .int a), (2, .int b), (3, .int c), (4, .int e), (5, .int g)] [] (zw2 h tp x (.inl (2, n, .inl (zf_f4 (zf_f4 f 0 a) (zf_4 0) b))) (.inr (12, fs.set 1 (.int (zf_4 (zf_4 0)))))) Q
  refine zz_E.n 65 rfl rfl rfl ?_
  refine zz_E.n 66 rfl rfl rfl ?_
  refine zz_E.cl (M' := zm_2) (as := [.ref x, .int c]) (rest := []) 69 rfl rfl (by decide) (zv_site (zw2_b hb hbo)) rfl ⟨rfl, Nat.le_of_ble_eq_true rfl⟩ rfl ?_
  refine zf_Tx hn ha hb hao hbo h0 h1 (by rcases hN with q | q <;> (rw [q]; decide +kernel)) (by rcases hN with q | q <;> (rw [q]; decide +kernel)) (by rcases hN with q | q <;> (rw [q]; decide +kernel)) (by rcases hN with q | q <;> (rw [q]; decide +kernel)) ?_
  show zz_E zp_P zt_tf zt_fd X (d + 1) zm_1 69 [(0, .ref x), (1, .int a), (2, .int b), (3, .int c), (4, .int e), (5, .int g)] [] (zw2 h tp x (.inl (2, n, .inl (zf_f4 (zf_f4 (zf_f4 f 0 a) (zf_4 0) b) (zf_4 (zf_4 0)) c))) (.inr (12, fs.set 1 (.int (zf_4 (zf_4 (zf_4 0))))))) Q
  refine zz_E.n 70 rfl rfl rfl ?_
  refine zz_E.n 72 rfl rfl rfl ?_
  refine zz_E.cl (M' := zm_2) (as := [.ref x, .int e]) (rest := []) 75 rfl rfl (by decide) (zv_site (zw2_b hb hbo)) rfl ⟨rfl, Nat.le_of_ble_eq_true rfl⟩ rfl ?_
  refine zf_Tx hn ha hb hao hbo h0 h1 (by rcases hN with q | q <;> (rw [q]; decide +kernel)) (by rcases hN with q | q <;> (rw [q]; decide +kernel)) (by rcases hN with q | q <;> (rw [q]; decide +kernel)) (by rcases hN with q | q <;> (rw [q]; decide +kernel)) ?_
  show zz_E zp_P zt_tf zt_fd X (d + 1) zm_1 75 [(0, .ref x), (1, .int a), (2, .int b), (3, .int c), (4, .int e), (5, .int g)] [] (zw2 h tp x (.inl (2, n, .inl (zf_f4 (zf_f4 (zf_f4 (zf_f4 f 0 a) (zf_4 0) b) (zf_4 (zf_4 0)) c) (zf_4 (zf_4 (zf_4 0))) e))) (.inr (12, fs.set 1 (.int (zf_4 (zf_4 (zf_4 (zf_4 0)))))))) Q
  refine zz_E.n 76 rfl rfl rfl ?_
  refine zz_E.n 78 rfl rfl rfl ?_
  refine zz_E.cl (M' := zm_2) (as := [.ref x, .int g]) (rest := []) 81 rfl rfl (by decide) (zv_site (zw2_b hb hbo)) rfl ⟨rfl, Nat.le_of_ble_eq_true rfl⟩ rfl ?_
  refine zf_Tx hn ha hb hao hbo h0 h1 (by rcases hN with q | q <;> (rw [q]; decide +kernel)) (by rcases hN with q | q <;> (rw [q]; decide +kernel)) (by rcases hN with q | q <;> (rw [q]; decide +kernel)) (by rcases hN with q | q <;> (rw [q]; decide +kernel)) ?_
  show zz_E zp_P zt_tf zt_fd X (d + 1) zm_1 81 [(0, .ref x), (1, .int a), (2, .int b), (3, .int c), (4, .int e), (5, .int g)] [] (zw2 h tp x (.inl (2, n, .inl (zf_f4 (zf_f4 (zf_f4 (zf_f4 (zf_f4 f 0 a) (zf_4 0) b) (zf_4 (zf_4 0)) c) (zf_4 (zf_4 (zf_4 0))) e) (zf_4 (zf_4 (zf_4 (zf_4 0)))) g))) (.inr (12, fs.set 1 (.int (zf_4 (zf_4 (zf_4 (zf_4 (zf_4 0))))))))) Q
  refine zz_E.n 82 rfl rfl rfl ?_
  refine zz_E.gf 85 rfl (zw2_b hb hbo) (by rw [List.getElem?_set_self h1]) rfl ?_
  refine zz_E.ret rfl rfl rfl ?_
  exact k
set_option maxRecDepth 100000 in
set_option maxHeartbeats 1600000 in
theorem zv_Fm {X : Nat → Option zz_C} {h : zz_H} {tp x n d : Nat} {f : Nat → Int32} {fs : List Value} {a b c e g : Int32} {Q : Option Value → zz_H → Prop} (hn : tp ≠ x) (ha : tp < h.length) (hb : x < h.length) (hao : tp < zz_out) (hbo : x < zz_out) (h0 : fs[2]? = some (.ref tp)) (h1 : 3 < fs.length) (hN : n = 320 ∨ n = 1620) (k : Q (some (.int (zf_4 (zf_4 (zf_4 (zf_4 (zf_4 0))))))) (zw2 h tp x (.inl (2, n, .inl (zf_f4 (zf_f4 (zf_f4 (zf_f4 (zf_f4 f 0 a) (zf_4 0) b) (zf_4 (zf_4 0)) c) (zf_4 (zf_4 (zf_4 0))) e) (zf_4 (zf_4 (zf_4 (zf_4 0)))) g))) (.inr (13, fs.set 3 (.int (zf_4 (zf_4 (zf_4 (zf_4 (zf_4 0)))))))))) : zz_E zp_P zt_tf zt_fd X (d + 1) zm_57 0 [(0, .ref x), (1, .int a), (2, .int b), (3, .int c), (4, .int e), (5, .int g)] [] (zw2 h tp x (.inl (2, n, .inl f)) (.inr (13, fs.set 3 (.int 0)))) Q := by
  refine zz_E.n 1 rfl rfl rfl ?_
  refine zz_E.gf 4 rfl (zw2_b hb hbo) (by rw [List.getElem?_set_self h1]) rfl ?_
  refine zz_E.n 7 rfl rfl rfl ?_
  refine zz_E.kt 12 rfl (by decide +kernel) (by decide) rfl ?_
  refine zz_E.n 13 rfl rfl rfl ?_
  refine zz_E.n 14 rfl rfl rfl ?_
  refine zz_E.cl (M' := zm_58) (as := [.ref x, .int a]) (rest := []) 17 rfl rfl (by decide) (zv_site (zw2_b hb hbo)) rfl ⟨rfl, Nat.le_of_ble_eq_true rfl⟩ rfl ?_
  refine zf_Tm hn ha hb hao hbo h0 h1 (by rcases hN with q | q <;> (rw [q]; decide +kernel)) (by rcases hN with q | q <;> (rw [q]; decide +kernel)) (by rcases hN with q | q <;> (rw [q]; decide +kernel)) (by rcases hN with q | q <;> (rw [q]; decide +kernel)) ?_
  show zz_E zp_P zt_tf zt_fd X (d + 1) zm_57 17 [(0, .ref x), (1, .int a), (2, .int b), (3, .int c), (4, .int e), (5, .int g)] [] (zw2 h tp x (.inl (2, n, .inl (zf_f4 f 0 a))) (.inr (13, fs.set 3 (.int (zf_4 0))))) Q
  refine zz_E.n 18 rfl rfl rfl ?_
  refine zz_E.n 19 rfl rfl rfl ?_
  refine zz_E.cl (M' := zm_58) (as := [.ref x, .int b]) (rest := []) 22 rfl rfl (by decide) (zv_site (zw2_b hb hbo)) rfl ⟨rfl, Nat.le_of_ble_eq_true rfl⟩ rfl ?_
  refine zf_Tm hn ha hb hao hbo h0 h1 (by rcases hN with q | q <;> (rw [q]; decide +kernel)) (by rcases hN with q | q <;> (rw [q]; decide +kernel)) (by rcases hN with q | q <;> (rw [q]; decide +kernel)) (by rcases hN with q | q <;> (rw [q]; decide +kernel)) ?_
  show zz_E zp_P zt_tf zt_fd X (d + 1) zm_57 22 [(0, .ref x), (1, .int a), (2, .int b), (3, .int c), (4, .int e), (5, .int g)] [] (zw2 h tp x (.inl (2, n, .inl (zf_f4 (zf_f4 f 0 a) (zf_4 0) b))) (.inr (13, fs.set 3 (.int (zf_4 (zf_4 0)))))) Q
  refine zz_E.n 23 rfl rfl rfl ?_
  refine zz_E.n 24 rfl rfl rfl ?_
  refine zz_E.cl (M' := zm_58) (as := [.ref x, .int c]) (rest := []) 27 rfl rfl (by decide) (zv_site (zw2_b hb hbo)) rfl ⟨rfl, Nat.le_of_ble_eq_true rfl⟩ rfl ?_
  refine zf_Tm hn ha hb hao hbo h0 h1 (by rcases hN with q | q <;> (rw [q]; decide +kernel)) (by rcases hN with q | q <;> (rw [q]; decide +kernel)) (by rcases hN with q | q <;> (rw [q]; decide +kernel)) (by rcases hN with q | q <;> (rw [q]; decide +kernel)) ?_
  show zz_E zp_P zt_tf zt_fd X (d + 1) zm_57 27 [(0, .ref x), (1, .int a), (2, .int b), (3, .int c), (4, .int e), (5, .int g)] [] (zw2 h tp x (.inl (2, n, .inl (zf_f4 (zf_f4 (zf_f4 f 0 a) (zf_4 0) b) (zf_4 (zf_4 0)) c))) (.inr (13, fs.set 3 (.int (zf_4 (zf_4 (zf_4 0))))))) Q
  refine zz_E.n 28 rfl rfl rfl ?_
  refine zz_E.n 30 rfl rfl rfl ?_
  refine zz_E.cl (M' := zm_58) (as := [.ref x, .int e]) (rest := []) 33 rfl rfl (by decide) (zv_site (zw2_b hb hbo)) rfl ⟨rfl, Nat.le_of_ble_eq_true rfl⟩ rfl ?_
  refine zf_Tm hn ha hb hao hbo h0 h1 (by rcases hN with q | q <;> (rw [q]; decide +kernel)) (by rcases hN with q | q <;> (rw [q]; decide +kernel)) (by rcases hN with q | q <;> (rw [q]; decide +kernel)) (by rcases hN with q | q <;> (rw [q]; decide +kernel)) ?_
  show zz_E zp_P zt_tf zt_fd X (d + 1) zm_57 33 [(0, .ref x), (1, .int a), (2, .int b), (3, .int c), (4, .int e), (5, .int g)] [] (zw2 h tp x (.inl (2, n, .inl (zf_f4 (zf_f4 (zf_f4 (zf_f4 f 0 a) (zf_4 0) b) (zf_4 (zf_4 0)) c) (zf_4 (zf_4 (zf_4 0))) e))) (.inr (13, fs.set 3 (.int (zf_4 (zf_4 (zf_4 (zf_4 0)))))))) Q
  refine zz_E.n 34 rfl rfl rfl ?_
  refine zz_E.n 36 rfl rfl rfl ?_
  refine zz_E.cl (M' := zm_58) (as := [.ref x, .int g]) (rest := []) 39 rfl rfl (by decide) (zv_site (zw2_b hb hbo)) rfl ⟨rfl, Nat.le_of_ble_eq_true rfl⟩ rfl ?_
  refine zf_Tm hn ha hb hao hbo h0 h1 (by rcases hN with q | q <;> (rw [q]; decide +kernel)) (by rcases hN with q | q <;> (rw [q]; decide +kernel)) (by rcases hN with q | q <;> (rw [q]; decide +kernel)) (by rcases hN with q | q <;> (rw [q]; decide +kernel)) ?_
  show zz_E zp_P zt_tf zt_fd X (d + 1) zm_57 39 [(0, .ref x), (1, .int a), (2, .int b), (3, .int c), (4, .int e), (5, .int g)] [] (zw2 h tp x (.inl (2, n, .inl (zf_f4 (zf_f4 (zf_f4 (zf_f4 (zf_f4 f 0 a) (zf_4 0) b) (zf_4 (zf_4 0)) c) (zf_4 (zf_4 (zf_4 0))) e) (zf_4 (zf_4 (zf_4 (zf_4 0)))) g))) (.inr (13, fs.set 3 (.int (zf_4 (zf_4 (zf_4 (zf_4 (zf_4 0))))))))) Q
  refine zz_E.n 40 rfl rfl rfl ?_
  refine zz_E.gf 43 rfl (zw2_b hb hbo) (by rw [List.getElem?_set_self h1]) rfl ?_
  refine zz_E.ret rfl rfl rfl ?_
  exact k
set_option maxRecDepth 100000 in
set_option maxHeartbeats 1600000 in
theorem zv_s0 (xs : Nat → Int32) : zz_E zp_P zt_tf zt_fd (zt_X 6 xs) 1000 zm_law 33 zv_L [.int (nI 0)] zv_h zv_Q := by
  refine zz_E.n 124 rfl rfl rfl ?_
  refine zz_E.n 125 rfl rfl rfl ?_
  refine zz_E.n 126 rfl rfl rfl ?_
  refine zz_E.n 127 rfl rfl rfl ?_
  refine zz_E.n 128 rfl rfl rfl ?_
  refine zz_E.n 129 rfl rfl rfl ?_
  refine zz_E.n 130 rfl rfl rfl ?_
  refine zz_E.n 131 rfl rfl rfl ?_
  refine zz_E.n 132 rfl rfl rfl ?_
  refine zz_E.n 133 rfl rfl rfl ?_
  refine zz_E.n 134 rfl rfl rfl ?_
  refine zz_E.n 135 rfl rfl rfl ?_
  refine zz_E.n 136 rfl rfl rfl ?_
  refine zz_E.n 137 rfl rfl rfl ?_
  refine zz_E.n 138 rfl rfl rfl ?_
  refine zz_E.n 139 rfl rfl rfl ?_
  refine zz_E.n 140 rfl rfl rfl ?_
  refine zz_E.n 141 rfl rfl rfl ?_
  refine zz_E.n 142 rfl rfl rfl ?_
  refine zz_E.n 143 rfl rfl rfl ?_
  refine zz_E.n 144 rfl rfl rfl ?_
  refine zz_E.n 145 rfl rfl rfl ?_
  refine zz_E.n 146 rfl rfl rfl ?_
  refine zz_E.n 147 rfl rfl rfl ?_
  refine zz_E.n 148 rfl rfl rfl ?_
  refine zz_E.n 149 rfl rfl rfl ?_
  refine zz_E.n 150 rfl rfl rfl ?_
  refine zz_E.cl (M' := zm_1) 153 rfl rfl (by decide) rfl rfl ⟨rfl, Nat.le_of_ble_eq_true rfl⟩ rfl ?_
  rw [zv_e12]
  refine zv_Fx (by decide) (Nat.le_of_ble_eq_true rfl) (Nat.le_of_ble_eq_true rfl) (by decide) (by decide) rfl (Nat.le_of_ble_eq_true rfl) (Or.inl rfl) ?_
  -- generalize hc : (Sum.inl (2, 320, Sum.inl _) : zz_C) = cx
  refine zz_E.n 154 rfl rfl rfl ?_
  refine zz_E.n 155 rfl rfl rfl ?_
  refine zz_E.n 156 rfl rfl rfl ?_
  refine zz_E.n 157 rfl rfl rfl ?_
  refine zz_E.n 158 rfl rfl rfl ?_
  refine zz_E.n 159 rfl rfl rfl ?_
  refine zz_E.n 160 rfl rfl rfl ?_
  refine zz_E.n 161 rfl rfl rfl ?_
  refine zz_E.n 162 rfl rfl rfl ?_
  refine zz_E.n 163 rfl rfl rfl ?_
  refine zz_E.n 164 rfl rfl rfl ?_
  refine zz_E.n 165 rfl rfl rfl ?_
  refine zz_E.n 166 rfl rfl rfl ?_
  refine zz_E.n 167 rfl rfl rfl ?_
  refine zz_E.n 168 rfl rfl rfl ?_
  refine zz_E.n 169 rfl rfl rfl ?_
  refine zz_E.n 170 rfl rfl rfl ?_
  refine zz_E.n 171 rfl rfl rfl ?_
  refine zz_E.n 172 rfl rfl rfl ?_
  refine zz_E.n 173 rfl rfl rfl ?_
  refine zz_E.n 174 rfl rfl rfl ?_
  refine zz_E.n 175 rfl rfl rfl ?_
  refine zz_E.n 176 rfl rfl rfl ?_
  refine zz_E.n 177 rfl rfl rfl ?_
  refine zz_E.n 178 rfl rfl rfl ?_
  refine zz_E.n 179 rfl rfl rfl ?_
  refine zz_E.cl (M' := zm_57) 182 rfl rfl (by decide) rfl rfl ⟨rfl, Nat.le_of_ble_eq_true rfl⟩ rfl ?_
  rw [zv_e13]
  refine zv_Fm (by decide) (Nat.le_of_ble_eq_true rfl) (Nat.le_of_ble_eq_true rfl) (by decide) (by decide) rfl (Nat.le_of_ble_eq_true rfl) (Or.inr rfl) ?_
  refine zz_E.kt 652 rfl (by decide +kernel) (by decide) rfl ?_
  refine zz_E.n 655 rfl rfl rfl ?_
  refine zz_E.n 18 rfl rfl rfl ?_
  refine zz_E.n 19 rfl rfl rfl ?_
  refine zz_E.n 20 rfl rfl rfl ?_
  refine zz_E.n 21 rfl rfl rfl ?_
  refine zz_E.n 23 rfl rfl rfl ?_
  refine zz_E.n 24 rfl rfl rfl ?_
  refine zz_E.kt 658 rfl (by decide +kernel) (by decide) rfl ?_
  refine zz_E.n 659 rfl rfl rfl ?_
  refine zz_E.ret rfl rfl rfl ?_
  refine ⟨rfl, ?_, ?_⟩
  · rw [zw2_len, zw2_len]
    decide +kernel
  · refine Nat.le_trans (Nat.le_of_eq (zw2_sl (x := .inl (2, 1620, .inl fun _ => 0)) (y := .inr (13, zv_fs13)) (by rfl) (by rfl) (by decide) (by rfl) (by rfl))) ?_
    refine Nat.le_trans (Nat.le_of_eq (zw2_sl (x := .inl (2, 320, .inl fun _ => 0)) (y := .inr (12, zv_fs12)) (by rfl) (by rfl) (by decide) (by rfl) (by rfl))) ?_
    decide +kernel
