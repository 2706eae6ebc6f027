theorem zz_E.t {P : Nat → Option zz_M} {tf : Nat → Nat → FieldType} {fd : Nat → List Value} {X : Nat → Option zz_C} {d : Nat} {M : zz_M} {pc : Nat} {lv : List (Nat × Value)} {st : List Value} {h : zz_H} {Q : Option Value → zz_H → Prop} (v : Value) (pc' : Nat) {r : zz_N} {lv' : List (Nat × Value)} {st' : List Value} {h' : zz_H} (hrow : zz_row M pc = some r) (hc : zz_cls r.2.1 = 0) (hs : zz_step1 tf fd X M.1.2.2.1 r pc lv st h = some ((pc', lv', v :: st'), h')) (k : zz_E P tf fd X d M pc' lv' (v :: st') h' Q) : zz_E P tf fd X d M pc lv st h Q := zz_E.i hrow hc hs k
theorem zv_slh : zz_sl zt_nf zv_h ≤ 235995 := by decide +kernel
theorem zv_lnh : zv_h.length ≤ 600000 := by decide +kernel
theorem zv_sl0 {h : zz_H} (k : zz_sl zt_nf h + 0 * 170000 ≤ 7290000) : zz_sl zt_nf h ≤ 7290000 := by omega
theorem zv_sl_set {nf : Nat → Nat} {c : zz_C} : ∀ {h : zz_H} {a : Nat}, zz_sl nf (h.set a c) ≤ zz_sl nf h + zz_sz nf c
  | [], a => by simp [zz_sl]
  | x :: h, 0 => by simp only [zz_sl, List.set_cons_zero, List.map_cons, List.sum_cons]; omega
  | x :: h, a + 1 => by
    have := @zv_sl_set nf c h a
    simp only [zz_sl, List.set_cons_succ, List.map_cons, List.sum_cons] at this ⊢
    omega
theorem zv_sl {h : zz_H} {a n : Nat} {c : zz_C} (k : zz_sl zt_nf h + (n + 1) * 170000 ≤ 7290000) (hc : zz_sz zt_nf c ≤ 170000) : zz_sl zt_nf (h.set a c) + n * 170000 ≤ 7290000 := by
  have := @zv_sl_set zt_nf c h a
  omega
theorem zv_slA {h : zz_H} {a n t k : Nat} {f} (q : zz_sl zt_nf h + (n + 1) * 170000 ≤ 7290000) (hc : k ≤ 170000) : zz_sl zt_nf (h.set a (.inl (t, k, f))) + n * 170000 ≤ 7290000 := zv_sl q hc
theorem zv_slO {h : zz_H} {a n k : Nat} {f} (q : zz_sl zt_nf h + (n + 1) * 170000 ≤ 7290000) (hc : zt_nf k ≤ 170000) : zz_sl zt_nf (h.set a (.inr (k, f))) + n * 170000 ≤ 7290000 := zv_sl q hc
set_option maxRecDepth 100000 in
set_option maxHeartbeats 8000000 in
theorem zv_k8_0 (xs : Nat → Int32) : zz_E zp_P zt_tf zt_fd (zt_X 6 (fun q => if q = 1 then nI 0 else xs q)) 1000 zm_law 33 zv_L [.int (nI 8)] zv_h zv_Q := by
  refine zz_E.n 368 rfl rfl rfl ?_
  refine zz_E.n 369 rfl rfl rfl ?_
  refine zz_E.n 370 rfl rfl rfl ?_
  refine zz_E.n 371 rfl rfl rfl ?_
  refine zz_E.n 372 rfl rfl rfl ?_
  refine zz_E.n 373 rfl rfl rfl ?_
  refine zz_E.n 374 rfl rfl rfl ?_
  refine zz_E.cl (M' := zm_10) 377 rfl rfl (by decide) rfl rfl ⟨rfl, Nat.le_of_ble_eq_true rfl⟩ rfl ?_
  refine zz_E.n 1 rfl rfl rfl ?_
  refine zz_E.cl (M' := zm_21) 4 rfl rfl (by decide) rfl rfl ⟨rfl, Nat.le_of_ble_eq_true rfl⟩ rfl ?_
  refine zz_E.n 1 rfl rfl rfl ?_
  refine zz_E.jf 4 rfl (by rfl) (by decide) rfl ?_
  refine zz_E.n 5 rfl rfl rfl ?_
  refine zz_E.n 7 rfl rfl rfl ?_
  refine zz_E.kf 10 rfl (by rfl) (by decide) rfl ?_
  refine zz_E.n 11 rfl rfl rfl ?_
  refine zz_E.n 15 rfl rfl rfl ?_
  refine zz_E.ret rfl rfl rfl ?_
  refine zz_E.jf 7 rfl (by rfl) (by decide) rfl ?_
  refine zz_E.n 8 rfl rfl rfl ?_
  refine zz_E.n 11 rfl rfl rfl ?_
  refine zz_E.n 12 rfl rfl rfl ?_
  refine zz_E.cl (M' := zm_23) 15 rfl rfl (by decide) rfl rfl ⟨rfl, Nat.le_of_ble_eq_true rfl⟩ rfl ?_
  refine zz_E.n 1 rfl rfl rfl ?_
  refine zz_E.n 4 rfl rfl rfl ?_
  refine zz_E.n 5 rfl rfl rfl ?_
  refine zz_E.n 6 rfl rfl rfl ?_
  refine zz_E.jf 9 rfl (by rfl) (by decide) rfl ?_
  refine zz_E.n 10 rfl rfl rfl ?_
  refine zz_E.n 21 rfl rfl rfl ?_
  refine zz_E.ret rfl rfl rfl ?_
  refine zz_E.n 16 rfl rfl rfl ?_
  refine zz_E.kf 19 rfl (by rfl) (by decide) rfl ?_
  refine zz_E.n 20 rfl rfl rfl ?_
  refine zz_E.ret rfl rfl rfl ?_
  refine zz_E.n 378 rfl rfl rfl ?_
  refine zz_E.n 379 rfl rfl rfl ?_
  refine zz_E.n 380 rfl rfl rfl ?_
  refine zz_E.n 381 rfl rfl rfl ?_
  refine zz_E.n 382 rfl rfl rfl ?_
  refine zz_E.n 383 rfl rfl rfl ?_
  refine zz_E.cl (M' := zm_72) 386 rfl rfl (by decide) rfl rfl ⟨rfl, Nat.le_of_ble_eq_true rfl⟩ rfl ?_
  refine zz_E.n 1 rfl rfl rfl ?_
  refine zz_E.cl (M' := zm_73) 4 rfl rfl (by decide) rfl rfl ⟨rfl, Nat.le_of_ble_eq_true rfl⟩ rfl ?_
  refine zz_E.n 1 rfl rfl rfl ?_
  refine zz_E.jf 4 rfl (by rfl) (by decide) rfl ?_
  refine zz_E.n 5 rfl rfl rfl ?_
  refine zz_E.n 7 rfl rfl rfl ?_
  refine zz_E.kf 10 rfl (by rfl) (by decide) rfl ?_
  refine zz_E.n 11 rfl rfl rfl ?_
  refine zz_E.n 15 rfl rfl rfl ?_
  refine zz_E.ret rfl rfl rfl ?_
  refine zz_E.jf 7 rfl (by rfl) (by decide) rfl ?_
  refine zz_E.n 8 rfl rfl rfl ?_
  refine zz_E.n 11 rfl rfl rfl ?_
  refine zz_E.n 14 rfl rfl rfl ?_
  refine zz_E.n 15 rfl rfl rfl ?_
  refine zz_E.n 16 rfl rfl rfl ?_
  refine zz_E.n 17 rfl rfl rfl ?_
  refine zz_E.n 18 rfl rfl rfl ?_
  refine zz_E.kf 21 rfl (by rfl) (by decide) rfl ?_
  refine zz_E.n 22 rfl rfl rfl ?_
  refine zz_E.ret rfl rfl rfl ?_
  refine zz_E.kt 652 rfl (by rfl) (by decide) rfl ?_
  refine zz_E.n 655 rfl rfl rfl ?_
  refine zz_E.n 18 rfl rfl rfl ?_
  refine zz_E.n 19 rfl rfl rfl ?_
  refine zz_E.n 20 rfl rfl rfl ?_
  refine zz_E.n 21 rfl rfl rfl ?_
  refine zz_E.n 23 rfl rfl rfl ?_
  refine zz_E.n 24 rfl rfl rfl ?_
  refine zz_E.kt 658 rfl (by rfl) (by decide) rfl ?_
  refine zz_E.n 659 rfl rfl rfl ?_
  refine zz_E.ret rfl rfl rfl ?_
  exact ⟨rfl, by decide +kernel, by decide +kernel⟩
set_option maxRecDepth 100000 in
set_option maxHeartbeats 8000000 in
theorem zv_k8_1 (xs : Nat → Int32) : zz_E zp_P zt_tf zt_fd (zt_X 6 (fun q => if q = 1 then nI 1 else xs q)) 1000 zm_law 33 zv_L [.int (nI 8)] zv_h zv_Q := by
  refine zz_E.n 368 rfl rfl rfl ?_
  refine zz_E.n 369 rfl rfl rfl ?_
  refine zz_E.n 370 rfl rfl rfl ?_
  refine zz_E.n 371 rfl rfl rfl ?_
  refine zz_E.n 372 rfl rfl rfl ?_
  refine zz_E.n 373 rfl rfl rfl ?_
  refine zz_E.n 374 rfl rfl rfl ?_
  refine zz_E.cl (M' := zm_10) 377 rfl rfl (by decide) rfl rfl ⟨rfl, Nat.le_of_ble_eq_true rfl⟩ rfl ?_
  refine zz_E.n 1 rfl rfl rfl ?_
  refine zz_E.cl (M' := zm_21) 4 rfl rfl (by decide) rfl rfl ⟨rfl, Nat.le_of_ble_eq_true rfl⟩ rfl ?_
  refine zz_E.n 1 rfl rfl rfl ?_
  refine zz_E.jf 4 rfl (by rfl) (by decide) rfl ?_
  refine zz_E.n 5 rfl rfl rfl ?_
  refine zz_E.n 7 rfl rfl rfl ?_
  refine zz_E.kf 10 rfl (by rfl) (by decide) rfl ?_
  refine zz_E.n 11 rfl rfl rfl ?_
  refine zz_E.n 15 rfl rfl rfl ?_
  refine zz_E.ret rfl rfl rfl ?_
  refine zz_E.jf 7 rfl (by rfl) (by decide) rfl ?_
  refine zz_E.n 8 rfl rfl rfl ?_
  refine zz_E.n 11 rfl rfl rfl ?_
  refine zz_E.n 12 rfl rfl rfl ?_
  refine zz_E.cl (M' := zm_23) 15 rfl rfl (by decide) rfl rfl ⟨rfl, Nat.le_of_ble_eq_true rfl⟩ rfl ?_
  refine zz_E.n 1 rfl rfl rfl ?_
  refine zz_E.n 4 rfl rfl rfl ?_
  refine zz_E.n 5 rfl rfl rfl ?_
  refine zz_E.n 6 rfl rfl rfl ?_
  refine zz_E.jf 9 rfl (by rfl) (by decide) rfl ?_
  refine zz_E.n 10 rfl rfl rfl ?_
  refine zz_E.n 21 rfl rfl rfl ?_
  refine zz_E.ret rfl rfl rfl ?_
  refine zz_E.n 16 rfl rfl rfl ?_
  refine zz_E.kf 19 rfl (by rfl) (by decide) rfl ?_
  refine zz_E.n 20 rfl rfl rfl ?_
  refine zz_E.ret rfl rfl rfl ?_
  refine zz_E.n 378 rfl rfl rfl ?_
  refine zz_E.n 379 rfl rfl rfl ?_
  refine zz_E.n 380 rfl rfl rfl ?_
  refine zz_E.n 381 rfl rfl rfl ?_
  refine zz_E.n 382 rfl rfl rfl ?_
  refine zz_E.n 383 rfl rfl rfl ?_
  refine zz_E.cl (M' := zm_72) 386 rfl rfl (by decide) rfl rfl ⟨rfl, Nat.le_of_ble_eq_true rfl⟩ rfl ?_
  refine zz_E.n 1 rfl rfl rfl ?_
  refine zz_E.cl (M' := zm_73) 4 rfl rfl (by decide) rfl rfl ⟨rfl, Nat.le_of_ble_eq_true rfl⟩ rfl ?_
  refine zz_E.n 1 rfl rfl rfl ?_
  refine zz_E.jf 4 rfl (by rfl) (by decide) rfl ?_
  refine zz_E.n 5 rfl rfl rfl ?_
  refine zz_E.n 7 rfl rfl rfl ?_
  refine zz_E.kf 10 rfl (by rfl) (by decide) rfl ?_
  refine zz_E.n 11 rfl rfl rfl ?_
  refine zz_E.n 15 rfl rfl rfl ?_
  refine zz_E.ret rfl rfl rfl ?_
  refine zz_E.jf 7 rfl (by rfl) (by decide) rfl ?_
  refine zz_E.n 8 rfl rfl rfl ?_
  refine zz_E.n 11 rfl rfl rfl ?_
  refine zz_E.n 14 rfl rfl rfl ?_
  refine zz_E.n 15 rfl rfl rfl ?_
  refine zz_E.n 16 rfl rfl rfl ?_
  refine zz_E.n 17 rfl rfl rfl ?_
  refine zz_E.n 18 rfl rfl rfl ?_
  refine zz_E.kf 21 rfl (by rfl) (by decide) rfl ?_
  refine zz_E.n 22 rfl rfl rfl ?_
  refine zz_E.ret rfl rfl rfl ?_
  refine zz_E.kt 652 rfl (by rfl) (by decide) rfl ?_
  refine zz_E.n 655 rfl rfl rfl ?_
  refine zz_E.n 18 rfl rfl rfl ?_
  refine zz_E.n 19 rfl rfl rfl ?_
  refine zz_E.n 20 rfl rfl rfl ?_
  refine zz_E.n 21 rfl rfl rfl ?_
  refine zz_E.n 23 rfl rfl rfl ?_
  refine zz_E.n 24 rfl rfl rfl ?_
  refine zz_E.kt 658 rfl (by rfl) (by decide) rfl ?_
  refine zz_E.n 659 rfl rfl rfl ?_
  refine zz_E.ret rfl rfl rfl ?_
  exact ⟨rfl, by decide +kernel, by decide +kernel⟩
set_option maxRecDepth 100000 in
set_option maxHeartbeats 8000000 in
theorem zv_k8_2 (xs : Nat → Int32) : zz_E zp_P zt_tf zt_fd (zt_X 6 (fun q => if q = 1 then nI 2 else xs q)) 1000 zm_law 33 zv_L [.int (nI 8)] zv_h zv_Q := by
  refine zz_E.n 368 rfl rfl rfl ?_
  refine zz_E.n 369 rfl rfl rfl ?_
  refine zz_E.n 370 rfl rfl rfl ?_
  refine zz_E.n 371 rfl rfl rfl ?_
  refine zz_E.n 372 rfl rfl rfl ?_
  refine zz_E.n 373 rfl rfl rfl ?_
  refine zz_E.n 374 rfl rfl rfl ?_
  refine zz_E.cl (M' := zm_10) 377 rfl rfl (by decide) rfl rfl ⟨rfl, Nat.le_of_ble_eq_true rfl⟩ rfl ?_
  refine zz_E.n 1 rfl rfl rfl ?_
  refine zz_E.cl (M' := zm_21) 4 rfl rfl (by decide) rfl rfl ⟨rfl, Nat.le_of_ble_eq_true rfl⟩ rfl ?_
  refine zz_E.n 1 rfl rfl rfl ?_
  refine zz_E.jf 4 rfl (by rfl) (by decide) rfl ?_
  refine zz_E.n 5 rfl rfl rfl ?_
  refine zz_E.n 7 rfl rfl rfl ?_
  refine zz_E.kf 10 rfl (by rfl) (by decide) rfl ?_
  refine zz_E.n 11 rfl rfl rfl ?_
  refine zz_E.n 15 rfl rfl rfl ?_
  refine zz_E.ret rfl rfl rfl ?_
  refine zz_E.jf 7 rfl (by rfl) (by decide) rfl ?_
  refine zz_E.n 8 rfl rfl rfl ?_
  refine zz_E.n 11 rfl rfl rfl ?_
  refine zz_E.n 12 rfl rfl rfl ?_
  refine zz_E.cl (M' := zm_23) 15 rfl rfl (by decide) rfl rfl ⟨rfl, Nat.le_of_ble_eq_true rfl⟩ rfl ?_
  refine zz_E.n 1 rfl rfl rfl ?_
  refine zz_E.n 4 rfl rfl rfl ?_
  refine zz_E.n 5 rfl rfl rfl ?_
  refine zz_E.n 6 rfl rfl rfl ?_
  refine zz_E.jf 9 rfl (by rfl) (by decide) rfl ?_
  refine zz_E.n 10 rfl rfl rfl ?_
  refine zz_E.n 21 rfl rfl rfl ?_
  refine zz_E.ret rfl rfl rfl ?_
  refine zz_E.n 16 rfl rfl rfl ?_
  refine zz_E.kf 19 rfl (by rfl) (by decide) rfl ?_
  refine zz_E.n 20 rfl rfl rfl ?_
  refine zz_E.ret rfl rfl rfl ?_
  refine zz_E.n 378 rfl rfl rfl ?_
  refine zz_E.n 379 rfl rfl rfl ?_
  refine zz_E.n 380 rfl rfl rfl ?_
  refine zz_E.n 381 rfl rfl rfl ?_
  refine zz_E.n 382 rfl rfl rfl ?_
  refine zz_E.n 383 rfl rfl rfl ?_
  refine zz_E.cl (M' := zm_72) 386 rfl rfl (by decide) rfl rfl ⟨rfl, Nat.le_of_ble_eq_true rfl⟩ rfl ?_
  refine zz_E.n 1 rfl rfl rfl ?_
  refine zz_E.cl (M' := zm_73) 4 rfl rfl (by decide) rfl rfl ⟨rfl, Nat.le_of_ble_eq_true rfl⟩ rfl ?_
  refine zz_E.n 1 rfl rfl rfl ?_
  refine zz_E.jf 4 rfl (by rfl) (by decide) rfl ?_
  refine zz_E.n 5 rfl rfl rfl ?_
  refine zz_E.n 7 rfl rfl rfl ?_
  refine zz_E.kf 10 rfl (by rfl) (by decide) rfl ?_
  refine zz_E.n 11 rfl rfl rfl ?_
  refine zz_E.n 15 rfl rfl rfl ?_
  refine zz_E.ret rfl rfl rfl ?_
  refine zz_E.jf 7 rfl (by rfl) (by decide) rfl ?_
  refine zz_E.n 8 rfl rfl rfl ?_
  refine zz_E.n 11 rfl rfl rfl ?_
  refine zz_E.n 14 rfl rfl rfl ?_
  refine zz_E.n 15 rfl rfl rfl ?_
  refine zz_E.n 16 rfl rfl rfl ?_
  refine zz_E.n 17 rfl rfl rfl ?_
  refine zz_E.n 18 rfl rfl rfl ?_
  refine zz_E.kf 21 rfl (by rfl) (by decide) rfl ?_
  refine zz_E.n 22 rfl rfl rfl ?_
  refine zz_E.ret rfl rfl rfl ?_
  refine zz_E.kt 652 rfl (by rfl) (by decide) rfl ?_
  refine zz_E.n 655 rfl rfl rfl ?_
  refine zz_E.n 18 rfl rfl rfl ?_
  refine zz_E.n 19 rfl rfl rfl ?_
  refine zz_E.n 20 rfl rfl rfl ?_
  refine zz_E.n 21 rfl rfl rfl ?_
  refine zz_E.n 23 rfl rfl rfl ?_
  refine zz_E.n 24 rfl rfl rfl ?_
  refine zz_E.kt 658 rfl (by rfl) (by decide) rfl ?_
  refine zz_E.n 659 rfl rfl rfl ?_
  refine zz_E.ret rfl rfl rfl ?_
  exact ⟨rfl, by decide +kernel, by decide +kernel⟩
set_option maxRecDepth 100000 in
set_option maxHeartbeats 8000000 in
theorem zv_k8_3 (xs : Nat → Int32) : zz_E zp_P zt_tf zt_fd (zt_X 6 (fun q => if q = 1 then nI 3 else xs q)) 1000 zm_law 33 zv_L [.int (nI 8)] zv_h zv_Q := by
  refine zz_E.n 368 rfl rfl rfl ?_
  refine zz_E.n 369 rfl rfl rfl ?_
  refine zz_E.n 370 rfl rfl rfl ?_
  refine zz_E.n 371 rfl rfl rfl ?_
  refine zz_E.n 372 rfl rfl rfl ?_
  refine zz_E.n 373 rfl rfl rfl ?_
  refine zz_E.n 374 rfl rfl rfl ?_
  refine zz_E.cl (M' := zm_10) 377 rfl rfl (by decide) rfl rfl ⟨rfl, Nat.le_of_ble_eq_true rfl⟩ rfl ?_
  refine zz_E.n 1 rfl rfl rfl ?_
  refine zz_E.cl (M' := zm_21) 4 rfl rfl (by decide) rfl rfl ⟨rfl, Nat.le_of_ble_eq_true rfl⟩ rfl ?_
  refine zz_E.n 1 rfl rfl rfl ?_
  refine zz_E.jf 4 rfl (by rfl) (by decide) rfl ?_
  refine zz_E.n 5 rfl rfl rfl ?_
  refine zz_E.n 7 rfl rfl rfl ?_
  refine zz_E.kf 10 rfl (by rfl) (by decide) rfl ?_
  refine zz_E.n 11 rfl rfl rfl ?_
  refine zz_E.n 15 rfl rfl rfl ?_
  refine zz_E.ret rfl rfl rfl ?_
  refine zz_E.jf 7 rfl (by rfl) (by decide) rfl ?_
  refine zz_E.n 8 rfl rfl rfl ?_
  refine zz_E.n 11 rfl rfl rfl ?_
  refine zz_E.n 12 rfl rfl rfl ?_
  refine zz_E.cl (M' := zm_23) 15 rfl rfl (by decide) rfl rfl ⟨rfl, Nat.le_of_ble_eq_true rfl⟩ rfl ?_
  refine zz_E.n 1 rfl rfl rfl ?_
  refine zz_E.n 4 rfl rfl rfl ?_
  refine zz_E.n 5 rfl rfl rfl ?_
  refine zz_E.n 6 rfl rfl rfl ?_
  refine zz_E.jf 9 rfl (by rfl) (by decide) rfl ?_
  refine zz_E.n 10 rfl rfl rfl ?_
  refine zz_E.n 21 rfl rfl rfl ?_
  refine zz_E.ret rfl rfl rfl ?_
  refine zz_E.n 16 rfl rfl rfl ?_
  refine zz_E.kf 19 rfl (by rfl) (by decide) rfl ?_
  refine zz_E.n 20 rfl rfl rfl ?_
  refine zz_E.ret rfl rfl rfl ?_
  refine zz_E.n 378 rfl rfl rfl ?_
  refine zz_E.n 379 rfl rfl rfl ?_
  refine zz_E.n 380 rfl rfl rfl ?_
  refine zz_E.n 381 rfl rfl rfl ?_
  refine zz_E.n 382 rfl rfl rfl ?_
  refine zz_E.n 383 rfl rfl rfl ?_
  refine zz_E.cl (M' := zm_72) 386 rfl rfl (by decide) rfl rfl ⟨rfl, Nat.le_of_ble_eq_true rfl⟩ rfl ?_
  refine zz_E.n 1 rfl rfl rfl ?_
  refine zz_E.cl (M' := zm_73) 4 rfl rfl (by decide) rfl rfl ⟨rfl, Nat.le_of_ble_eq_true rfl⟩ rfl ?_
  refine zz_E.n 1 rfl rfl rfl ?_
  refine zz_E.jf 4 rfl (by rfl) (by decide) rfl ?_
  refine zz_E.n 5 rfl rfl rfl ?_
  refine zz_E.n 7 rfl rfl rfl ?_
  refine zz_E.kf 10 rfl (by rfl) (by decide) rfl ?_
  refine zz_E.n 11 rfl rfl rfl ?_
  refine zz_E.n 15 rfl rfl rfl ?_
  refine zz_E.ret rfl rfl rfl ?_
  refine zz_E.jf 7 rfl (by rfl) (by decide) rfl ?_
  refine zz_E.n 8 rfl rfl rfl ?_
  refine zz_E.n 11 rfl rfl rfl ?_
  refine zz_E.n 14 rfl rfl rfl ?_
  refine zz_E.n 15 rfl rfl rfl ?_
  refine zz_E.n 16 rfl rfl rfl ?_
  refine zz_E.n 17 rfl rfl rfl ?_
  refine zz_E.n 18 rfl rfl rfl ?_
  refine zz_E.kf 21 rfl (by rfl) (by decide) rfl ?_
  refine zz_E.n 22 rfl rfl rfl ?_
  refine zz_E.ret rfl rfl rfl ?_
  refine zz_E.kt 652 rfl (by rfl) (by decide) rfl ?_
  refine zz_E.n 655 rfl rfl rfl ?_
  refine zz_E.n 18 rfl rfl rfl ?_
  refine zz_E.n 19 rfl rfl rfl ?_
  refine zz_E.n 20 rfl rfl rfl ?_
  refine zz_E.n 21 rfl rfl rfl ?_
  refine zz_E.n 23 rfl rfl rfl ?_
  refine zz_E.n 24 rfl rfl rfl ?_
  refine zz_E.kt 658 rfl (by rfl) (by decide) rfl ?_
  refine zz_E.n 659 rfl rfl rfl ?_
  refine zz_E.ret rfl rfl rfl ?_
  exact ⟨rfl, by decide +kernel, by decide +kernel⟩
set_option maxRecDepth 100000 in
set_option maxHeartbeats 8000000 in
theorem zv_k8_4 (xs : Nat → Int32) : zz_E zp_P zt_tf zt_fd (zt_X 6 (fun q => if q = 1 then nI 4 else xs q)) 1000 zm_law 33 zv_L [.int (nI 8)] zv_h zv_Q := by
  refine zz_E.n 368 rfl rfl rfl ?_
  refine zz_E.n 369 rfl rfl rfl ?_
  refine zz_E.n 370 rfl rfl rfl ?_
  refine zz_E.n 371 rfl rfl rfl ?_
  refine zz_E.n 372 rfl rfl rfl ?_
  refine zz_E.n 373 rfl rfl rfl ?_
  refine zz_E.n 374 rfl rfl rfl ?_
  refine zz_E.cl (M' := zm_10) 377 rfl rfl (by decide) rfl rfl ⟨rfl, Nat.le_of_ble_eq_true rfl⟩ rfl ?_
  refine zz_E.n 1 rfl rfl rfl ?_
  refine zz_E.cl (M' := zm_21) 4 rfl rfl (by decide) rfl rfl ⟨rfl, Nat.le_of_ble_eq_true rfl⟩ rfl ?_
  refine zz_E.n 1 rfl rfl rfl ?_
  refine zz_E.jf 4 rfl (by rfl) (by decide) rfl ?_
  refine zz_E.n 5 rfl rfl rfl ?_
  refine zz_E.n 7 rfl rfl rfl ?_
  refine zz_E.kf 10 rfl (by rfl) (by decide) rfl ?_
  refine zz_E.n 11 rfl rfl rfl ?_
  refine zz_E.n 15 rfl rfl rfl ?_
  refine zz_E.ret rfl rfl rfl ?_
  refine zz_E.jf 7 rfl (by rfl) (by decide) rfl ?_
  refine zz_E.n 8 rfl rfl rfl ?_
  refine zz_E.n 11 rfl rfl rfl ?_
  refine zz_E.n 12 rfl rfl rfl ?_
  refine zz_E.cl (M' := zm_23) 15 rfl rfl (by decide) rfl rfl ⟨rfl, Nat.le_of_ble_eq_true rfl⟩ rfl ?_
  refine zz_E.n 1 rfl rfl rfl ?_
  refine zz_E.n 4 rfl rfl rfl ?_
  refine zz_E.n 5 rfl rfl rfl ?_
  refine zz_E.n 6 rfl rfl rfl ?_
  refine zz_E.jf 9 rfl (by rfl) (by decide) rfl ?_
  refine zz_E.n 10 rfl rfl rfl ?_
  refine zz_E.n 21 rfl rfl rfl ?_
  refine zz_E.ret rfl rfl rfl ?_
  refine zz_E.n 16 rfl rfl rfl ?_
  refine zz_E.kf 19 rfl (by rfl) (by decide) rfl ?_
  refine zz_E.n 20 rfl rfl rfl ?_
  refine zz_E.ret rfl rfl rfl ?_
  refine zz_E.n 378 rfl rfl rfl ?_
  refine zz_E.n 379 rfl rfl rfl ?_
  refine zz_E.n 380 rfl rfl rfl ?_
  refine zz_E.n 381 rfl rfl rfl ?_
  refine zz_E.n 382 rfl rfl rfl ?_
  refine zz_E.n 383 rfl rfl rfl ?_
  refine zz_E.cl (M' := zm_72) 386 rfl rfl (by decide) rfl rfl ⟨rfl, Nat.le_of_ble_eq_true rfl⟩ rfl ?_
  refine zz_E.n 1 rfl rfl rfl ?_
  refine zz_E.cl (M' := zm_73) 4 rfl rfl (by decide) rfl rfl ⟨rfl, Nat.le_of_ble_eq_true rfl⟩ rfl ?_
  refine zz_E.n 1 rfl rfl rfl ?_
  refine zz_E.jf 4 rfl (by rfl) (by decide) rfl ?_
  refine zz_E.n 5 rfl rfl rfl ?_
  refine zz_E.n 7 rfl rfl rfl ?_
  refine zz_E.kf 10 rfl (by rfl) (by decide) rfl ?_
  refine zz_E.n 11 rfl rfl rfl ?_
  refine zz_E.n 15 rfl rfl rfl ?_
  refine zz_E.ret rfl rfl rfl ?_
  refine zz_E.jf 7 rfl (by rfl) (by decide) rfl ?_
  refine zz_E.n 8 rfl rfl rfl ?_
  refine zz_E.n 11 rfl rfl rfl ?_
  refine zz_E.n 14 rfl rfl rfl ?_
  refine zz_E.n 15 rfl rfl rfl ?_
  refine zz_E.n 16 rfl rfl rfl ?_
  refine zz_E.n 17 rfl rfl rfl ?_
  refine zz_E.n 18 rfl rfl rfl ?_
  refine zz_E.kf 21 rfl (by rfl) (by decide) rfl ?_
  refine zz_E.n 22 rfl rfl rfl ?_
  refine zz_E.ret rfl rfl rfl ?_
  refine zz_E.kt 652 rfl (by rfl) (by decide) rfl ?_
  refine zz_E.n 655 rfl rfl rfl ?_
  refine zz_E.n 18 rfl rfl rfl ?_
  refine zz_E.n 19 rfl rfl rfl ?_
  refine zz_E.n 20 rfl rfl rfl ?_
  refine zz_E.n 21 rfl rfl rfl ?_
  refine zz_E.n 23 rfl rfl rfl ?_
  refine zz_E.n 24 rfl rfl rfl ?_
  refine zz_E.kt 658 rfl (by rfl) (by decide) rfl ?_
  refine zz_E.n 659 rfl rfl rfl ?_
  refine zz_E.ret rfl rfl rfl ?_
  exact ⟨rfl, by decide +kernel, by decide +kernel⟩
set_option maxRecDepth 100000 in
set_option maxHeartbeats 8000000 in
theorem zv_k8_5 (xs : Nat → Int32) : zz_E zp_P zt_tf zt_fd (zt_X 6 (fun q => if q = 1 then nI 5 else xs q)) 1000 zm_law 33 zv_L [.int (nI 8)] zv_h zv_Q := by
  refine zz_E.n 368 rfl rfl rfl ?_
  refine zz_E.n 369 rfl rfl rfl ?_
  refine zz_E.n 370 rfl rfl rfl ?_
  refine zz_E.n 371 rfl rfl rfl ?_
  refine zz_E.n 372 rfl rfl rfl ?_
  refine zz_E.n 373 rfl rfl rfl ?_
  refine zz_E.n 374 rfl rfl rfl ?_
  refine zz_E.cl (M' := zm_10) 377 rfl rfl (by decide) rfl rfl ⟨rfl, Nat.le_of_ble_eq_true rfl⟩ rfl ?_
  refine zz_E.n 1 rfl rfl rfl ?_
  refine zz_E.cl (M' := zm_21) 4 rfl rfl (by decide) rfl rfl ⟨rfl, Nat.le_of_ble_eq_true rfl⟩ rfl ?_
  refine zz_E.n 1 rfl rfl rfl ?_
  refine zz_E.jf 4 rfl (by rfl) (by decide) rfl ?_
  refine zz_E.n 5 rfl rfl rfl ?_
  refine zz_E.n 7 rfl rfl rfl ?_
  refine zz_E.kf 10 rfl (by rfl) (by decide) rfl ?_
  refine zz_E.n 11 rfl rfl rfl ?_
  refine zz_E.n 15 rfl rfl rfl ?_
  refine zz_E.ret rfl rfl rfl ?_
  refine zz_E.jf 7 rfl (by rfl) (by decide) rfl ?_
  refine zz_E.n 8 rfl rfl rfl ?_
  refine zz_E.n 11 rfl rfl rfl ?_
  refine zz_E.n 12 rfl rfl rfl ?_
  refine zz_E.cl (M' := zm_23) 15 rfl rfl (by decide) rfl rfl ⟨rfl, Nat.le_of_ble_eq_true rfl⟩ rfl ?_
  refine zz_E.n 1 rfl rfl rfl ?_
  refine zz_E.n 4 rfl rfl rfl ?_
  refine zz_E.n 5 rfl rfl rfl ?_
  refine zz_E.n 6 rfl rfl rfl ?_
  refine zz_E.jf 9 rfl (by rfl) (by decide) rfl ?_
  refine zz_E.n 10 rfl rfl rfl ?_
  refine zz_E.n 21 rfl rfl rfl ?_
  refine zz_E.ret rfl rfl rfl ?_
  refine zz_E.n 16 rfl rfl rfl ?_
  refine zz_E.kf 19 rfl (by rfl) (by decide) rfl ?_
  refine zz_E.n 20 rfl rfl rfl ?_
  refine zz_E.ret rfl rfl rfl ?_
  refine zz_E.n 378 rfl rfl rfl ?_
  refine zz_E.n 379 rfl rfl rfl ?_
  refine zz_E.n 380 rfl rfl rfl ?_
  refine zz_E.n 381 rfl rfl rfl ?_
  refine zz_E.n 382 rfl rfl rfl ?_
  refine zz_E.n 383 rfl rfl rfl ?_
  refine zz_E.cl (M' := zm_72) 386 rfl rfl (by decide) rfl rfl ⟨rfl, Nat.le_of_ble_eq_true rfl⟩ rfl ?_
  refine zz_E.n 1 rfl rfl rfl ?_
  refine zz_E.cl (M' := zm_73) 4 rfl rfl (by decide) rfl rfl ⟨rfl, Nat.le_of_ble_eq_true rfl⟩ rfl ?_
  refine zz_E.n 1 rfl rfl rfl ?_
  refine zz_E.jf 4 rfl (by rfl) (by decide) rfl ?_
  refine zz_E.n 5 rfl rfl rfl ?_
  refine zz_E.n 7 rfl rfl rfl ?_
  refine zz_E.kf 10 rfl (by rfl) (by decide) rfl ?_
  refine zz_E.n 11 rfl rfl rfl ?_
  refine zz_E.n 15 rfl rfl rfl ?_
  refine zz_E.ret rfl rfl rfl ?_
  refine zz_E.jf 7 rfl (by rfl) (by decide) rfl ?_
  refine zz_E.n 8 rfl rfl rfl ?_
  refine zz_E.n 11 rfl rfl rfl ?_
  refine zz_E.n 14 rfl rfl rfl ?_
  refine zz_E.n 15 rfl rfl rfl ?_
  refine zz_E.n 16 rfl rfl rfl ?_
  refine zz_E.n 17 rfl rfl rfl ?_
  refine zz_E.n 18 rfl rfl rfl ?_
  refine zz_E.kf 21 rfl (by rfl) (by decide) rfl ?_
  refine zz_E.n 22 rfl rfl rfl ?_
  refine zz_E.ret rfl rfl rfl ?_
  refine zz_E.kt 652 rfl (by rfl) (by decide) rfl ?_
  refine zz_E.n 655 rfl rfl rfl ?_
  refine zz_E.n 18 rfl rfl rfl ?_
  refine zz_E.n 19 rfl rfl rfl ?_
  refine zz_E.n 20 rfl rfl rfl ?_
  refine zz_E.n 21 rfl rfl rfl ?_
  refine zz_E.n 23 rfl rfl rfl ?_
  refine zz_E.n 24 rfl rfl rfl ?_
  refine zz_E.kt 658 rfl (by rfl) (by decide) rfl ?_
  refine zz_E.n 659 rfl rfl rfl ?_
  refine zz_E.ret rfl rfl rfl ?_
  exact ⟨rfl, by decide +kernel, by decide +kernel⟩
set_option maxRecDepth 100000 in
set_option maxHeartbeats 8000000 in
theorem zv_k8_6 (xs : Nat → Int32) : zz_E zp_P zt_tf zt_fd (zt_X 6 (fun q => if q = 1 then nI 6 else xs q)) 1000 zm_law 33 zv_L [.int (nI 8)] zv_h zv_Q := by
  refine zz_E.n 368 rfl rfl rfl ?_
  refine zz_E.n 369 rfl rfl rfl ?_
  refine zz_E.n 370 rfl rfl rfl ?_
  refine zz_E.n 371 rfl rfl rfl ?_
  refine zz_E.n 372 rfl rfl rfl ?_
  refine zz_E.n 373 rfl rfl rfl ?_
  refine zz_E.n 374 rfl rfl rfl ?_
  refine zz_E.cl (M' := zm_10) 377 rfl rfl (by decide) rfl rfl ⟨rfl, Nat.le_of_ble_eq_true rfl⟩ rfl ?_
  refine zz_E.n 1 rfl rfl rfl ?_
  refine zz_E.cl (M' := zm_21) 4 rfl rfl (by decide) rfl rfl ⟨rfl, Nat.le_of_ble_eq_true rfl⟩ rfl ?_
  refine zz_E.n 1 rfl rfl rfl ?_
  refine zz_E.jf 4 rfl (by rfl) (by decide) rfl ?_
  refine zz_E.n 5 rfl rfl rfl ?_
  refine zz_E.n 7 rfl rfl rfl ?_
  refine zz_E.kf 10 rfl (by rfl) (by decide) rfl ?_
  refine zz_E.n 11 rfl rfl rfl ?_
  refine zz_E.n 15 rfl rfl rfl ?_
  refine zz_E.ret rfl rfl rfl ?_
  refine zz_E.jf 7 rfl (by rfl) (by decide) rfl ?_
  refine zz_E.n 8 rfl rfl rfl ?_
  refine zz_E.n 11 rfl rfl rfl ?_
  refine zz_E.n 12 rfl rfl rfl ?_
  refine zz_E.cl (M' := zm_23) 15 rfl rfl (by decide) rfl rfl ⟨rfl, Nat.le_of_ble_eq_true rfl⟩ rfl ?_
  refine zz_E.n 1 rfl rfl rfl ?_
  refine zz_E.n 4 rfl rfl rfl ?_
  refine zz_E.n 5 rfl rfl rfl ?_
  refine zz_E.n 6 rfl rfl rfl ?_
  refine zz_E.jf 9 rfl (by rfl) (by decide) rfl ?_
  refine zz_E.n 10 rfl rfl rfl ?_
  refine zz_E.n 21 rfl rfl rfl ?_
  refine zz_E.ret rfl rfl rfl ?_
  refine zz_E.n 16 rfl rfl rfl ?_
  refine zz_E.kf 19 rfl (by rfl) (by decide) rfl ?_
  refine zz_E.n 20 rfl rfl rfl ?_
  refine zz_E.ret rfl rfl rfl ?_
  refine zz_E.n 378 rfl rfl rfl ?_
  refine zz_E.n 379 rfl rfl rfl ?_
  refine zz_E.n 380 rfl rfl rfl ?_
  refine zz_E.n 381 rfl rfl rfl ?_
  refine zz_E.n 382 rfl rfl rfl ?_
  refine zz_E.n 383 rfl rfl rfl ?_
  refine zz_E.cl (M' := zm_72) 386 rfl rfl (by decide) rfl rfl ⟨rfl, Nat.le_of_ble_eq_true rfl⟩ rfl ?_
  refine zz_E.n 1 rfl rfl rfl ?_
  refine zz_E.cl (M' := zm_73) 4 rfl rfl (by decide) rfl rfl ⟨rfl, Nat.le_of_ble_eq_true rfl⟩ rfl ?_
  refine zz_E.n 1 rfl rfl rfl ?_
  refine zz_E.jf 4 rfl (by rfl) (by decide) rfl ?_
  refine zz_E.n 5 rfl rfl rfl ?_
  refine zz_E.n 7 rfl rfl rfl ?_
  refine zz_E.kf 10 rfl (by rfl) (by decide) rfl ?_
  refine zz_E.n 11 rfl rfl rfl ?_
  refine zz_E.n 15 rfl rfl rfl ?_
  refine zz_E.ret rfl rfl rfl ?_
  refine zz_E.jf 7 rfl (by rfl) (by decide) rfl ?_
  refine zz_E.n 8 rfl rfl rfl ?_
  refine zz_E.n 11 rfl rfl rfl ?_
  refine zz_E.n 14 rfl rfl rfl ?_
  refine zz_E.n 15 rfl rfl rfl ?_
  refine zz_E.n 16 rfl rfl rfl ?_
  refine zz_E.n 17 rfl rfl rfl ?_
  refine zz_E.n 18 rfl rfl rfl ?_
  refine zz_E.kf 21 rfl (by rfl) (by decide) rfl ?_
  refine zz_E.n 22 rfl rfl rfl ?_
  refine zz_E.ret rfl rfl rfl ?_
  refine zz_E.kt 652 rfl (by rfl) (by decide) rfl ?_
  refine zz_E.n 655 rfl rfl rfl ?_
  refine zz_E.n 18 rfl rfl rfl ?_
  refine zz_E.n 19 rfl rfl rfl ?_
  refine zz_E.n 20 rfl rfl rfl ?_
  refine zz_E.n 21 rfl rfl rfl ?_
  refine zz_E.n 23 rfl rfl rfl ?_
  refine zz_E.n 24 rfl rfl rfl ?_
  refine zz_E.kt 658 rfl (by rfl) (by decide) rfl ?_
  refine zz_E.n 659 rfl rfl rfl ?_
  refine zz_E.ret rfl rfl rfl ?_
  exact ⟨rfl, by decide +kernel, by decide +kernel⟩
set_option maxRecDepth 100000 in
set_option maxHeartbeats 8000000 in
theorem zv_k8_7 (xs : Nat → Int32) : zz_E zp_P zt_tf zt_fd (zt_X 6 (fun q => if q = 1 then nI 7 else xs q)) 1000 zm_law 33 zv_L [.int (nI 8)] zv_h zv_Q := by
  refine zz_E.n 368 rfl rfl rfl ?_
  refine zz_E.n 369 rfl rfl rfl ?_
  refine zz_E.n 370 rfl rfl rfl ?_
  refine zz_E.n 371 rfl rfl rfl ?_
  refine zz_E.n 372 rfl rfl rfl ?_
  refine zz_E.n 373 rfl rfl rfl ?_
  refine zz_E.n 374 rfl rfl rfl ?_
  refine zz_E.cl (M' := zm_10) 377 rfl rfl (by decide) rfl rfl ⟨rfl, Nat.le_of_ble_eq_true rfl⟩ rfl ?_
  refine zz_E.n 1 rfl rfl rfl ?_
  refine zz_E.cl (M' := zm_21) 4 rfl rfl (by decide) rfl rfl ⟨rfl, Nat.le_of_ble_eq_true rfl⟩ rfl ?_
  refine zz_E.n 1 rfl rfl rfl ?_
  refine zz_E.jf 4 rfl (by rfl) (by decide) rfl ?_
  refine zz_E.n 5 rfl rfl rfl ?_
  refine zz_E.n 7 rfl rfl rfl ?_
  refine zz_E.kf 10 rfl (by rfl) (by decide) rfl ?_
  refine zz_E.n 11 rfl rfl rfl ?_
  refine zz_E.n 15 rfl rfl rfl ?_
  refine zz_E.ret rfl rfl rfl ?_
  refine zz_E.jf 7 rfl (by rfl) (by decide) rfl ?_
  refine zz_E.n 8 rfl rfl rfl ?_
  refine zz_E.n 11 rfl rfl rfl ?_
  refine zz_E.n 12 rfl rfl rfl ?_
  refine zz_E.cl (M' := zm_23) 15 rfl rfl (by decide) rfl rfl ⟨rfl, Nat.le_of_ble_eq_true rfl⟩ rfl ?_
  refine zz_E.n 1 rfl rfl rfl ?_
  refine zz_E.n 4 rfl rfl rfl ?_
  refine zz_E.n 5 rfl rfl rfl ?_
  refine zz_E.n 6 rfl rfl rfl ?_
  refine zz_E.jf 9 rfl (by rfl) (by decide) rfl ?_
  refine zz_E.n 10 rfl rfl rfl ?_
  refine zz_E.n 21 rfl rfl rfl ?_
  refine zz_E.ret rfl rfl rfl ?_
  refine zz_E.n 16 rfl rfl rfl ?_
  refine zz_E.kf 19 rfl (by rfl) (by decide) rfl ?_
  refine zz_E.n 20 rfl rfl rfl ?_
  refine zz_E.ret rfl rfl rfl ?_
  refine zz_E.n 378 rfl rfl rfl ?_
  refine zz_E.n 379 rfl rfl rfl ?_
  refine zz_E.n 380 rfl rfl rfl ?_
  refine zz_E.n 381 rfl rfl rfl ?_
  refine zz_E.n 382 rfl rfl rfl ?_
  refine zz_E.n 383 rfl rfl rfl ?_
  refine zz_E.cl (M' := zm_72) 386 rfl rfl (by decide) rfl rfl ⟨rfl, Nat.le_of_ble_eq_true rfl⟩ rfl ?_
  refine zz_E.n 1 rfl rfl rfl ?_
  refine zz_E.cl (M' := zm_73) 4 rfl rfl (by decide) rfl rfl ⟨rfl, Nat.le_of_ble_eq_true rfl⟩ rfl ?_
  refine zz_E.n 1 rfl rfl rfl ?_
  refine zz_E.jf 4 rfl (by rfl) (by decide) rfl ?_
  refine zz_E.n 5 rfl rfl rfl ?_
  refine zz_E.n 7 rfl rfl rfl ?_
  refine zz_E.kf 10 rfl (by rfl) (by decide) rfl ?_
  refine zz_E.n 11 rfl rfl rfl ?_
  refine zz_E.n 15 rfl rfl rfl ?_
  refine zz_E.ret rfl rfl rfl ?_
  refine zz_E.jf 7 rfl (by rfl) (by decide) rfl ?_
  refine zz_E.n 8 rfl rfl rfl ?_
  refine zz_E.n 11 rfl rfl rfl ?_
  refine zz_E.n 14 rfl rfl rfl ?_
  refine zz_E.n 15 rfl rfl rfl ?_
  refine zz_E.n 16 rfl rfl rfl ?_
  refine zz_E.n 17 rfl rfl rfl ?_
  refine zz_E.n 18 rfl rfl rfl ?_
  refine zz_E.kf 21 rfl (by rfl) (by decide) rfl ?_
  refine zz_E.n 22 rfl rfl rfl ?_
  refine zz_E.ret rfl rfl rfl ?_
  refine zz_E.kt 652 rfl (by rfl) (by decide) rfl ?_
  refine zz_E.n 655 rfl rfl rfl ?_
  refine zz_E.n 18 rfl rfl rfl ?_
  refine zz_E.n 19 rfl rfl rfl ?_
  refine zz_E.n 20 rfl rfl rfl ?_
  refine zz_E.n 21 rfl rfl rfl ?_
  refine zz_E.n 23 rfl rfl rfl ?_
  refine zz_E.n 24 rfl rfl rfl ?_
  refine zz_E.kt 658 rfl (by rfl) (by decide) rfl ?_
  refine zz_E.n 659 rfl rfl rfl ?_
  refine zz_E.ret rfl rfl rfl ?_
  exact ⟨rfl, by decide +kernel, by decide +kernel⟩
set_option maxRecDepth 100000 in
set_option maxHeartbeats 8000000 in
theorem zv_k9_0 (xs : Nat → Int32) : zz_E zp_P zt_tf zt_fd (zt_X 6 (fun q => if q = 1 then nI 0 else xs q)) 1000 zm_law 33 zv_L [.int (nI 9)] zv_h zv_Q := by
  refine zz_E.n 391 rfl rfl rfl ?_
  refine zz_E.n 392 rfl rfl rfl ?_
  refine zz_E.n 393 rfl rfl rfl ?_
  refine zz_E.n 394 rfl rfl rfl ?_
  refine zz_E.n 395 rfl rfl rfl ?_
  refine zz_E.t (.int 1) 396 rfl rfl rfl ?_
  refine zz_E.t (.int 0) 397 rfl rfl rfl ?_
  refine zz_E.n 398 rfl rfl rfl ?_
  refine zz_E.n 399 rfl rfl rfl ?_
  refine zz_E.n 400 rfl rfl rfl ?_
  refine zz_E.t (.int 2) 401 rfl rfl rfl ?_
  refine zz_E.n 402 rfl rfl rfl ?_
  refine zz_E.cl (M' := zm_11) 405 rfl rfl (by decide) rfl rfl ⟨rfl, Nat.le_of_ble_eq_true rfl⟩ rfl ?_
  refine zz_E.n 1 rfl rfl rfl ?_
  refine zz_E.cl (M' := zm_21) 4 rfl rfl (by decide) rfl rfl ⟨rfl, Nat.le_of_ble_eq_true rfl⟩ rfl ?_
  refine zz_E.n 1 rfl rfl rfl ?_
  refine zz_E.jf 4 rfl (by rfl) (by decide) rfl ?_
  refine zz_E.n 5 rfl rfl rfl ?_
  refine zz_E.n 7 rfl rfl rfl ?_
  refine zz_E.kf 10 rfl (by rfl) (by decide) rfl ?_
  refine zz_E.n 11 rfl rfl rfl ?_
  refine zz_E.n 15 rfl rfl rfl ?_
  refine zz_E.ret rfl rfl rfl ?_
  refine zz_E.jt 9 rfl (by rfl) (by decide) rfl ?_
  refine zz_E.n 10 rfl rfl rfl ?_
  refine zz_E.n 13 rfl rfl rfl ?_
  refine zz_E.n 14 rfl rfl rfl ?_
  refine zz_E.n 15 rfl rfl rfl ?_
  refine zz_E.cl (M' := zm_24) 18 rfl rfl (by decide) rfl rfl ⟨rfl, Nat.le_of_ble_eq_true rfl⟩ rfl ?_
  refine zz_E.n 1 rfl rfl rfl ?_
  refine zz_E.n 4 rfl rfl rfl ?_
  refine zz_E.n 5 rfl rfl rfl ?_
  refine zz_E.n 6 rfl rfl rfl ?_
  refine zz_E.n 7 rfl rfl rfl ?_
  refine zz_E.n 8 rfl rfl rfl ?_
  refine zz_E.n 9 rfl rfl rfl ?_
  refine zz_E.n 10 rfl rfl rfl ?_
  refine zz_E.cl (M' := zm_25) 13 rfl rfl (by decide) rfl rfl ⟨rfl, Nat.le_of_ble_eq_true rfl⟩ rfl ?_
  refine zz_E.n 1 rfl rfl rfl ?_
  refine zz_E.n 4 rfl rfl rfl ?_
  refine zz_E.n 5 rfl rfl rfl ?_
  refine zz_E.t (.int 0) 6 rfl rfl rfl ?_
  refine zz_E.n 7 rfl rfl rfl ?_
  refine zz_E.n 8 rfl rfl rfl ?_
  refine zz_E.n 9 rfl rfl rfl ?_
  refine zz_E.n 12 rfl rfl rfl ?_
  refine zz_E.n 13 rfl rfl rfl ?_
  refine zz_E.n 14 rfl rfl rfl ?_
  refine zz_E.n 15 rfl rfl rfl ?_
  refine zz_E.kt 38 rfl (by rfl) (by decide) rfl ?_
  refine zz_E.n 39 rfl rfl rfl ?_
  refine zz_E.n 42 rfl rfl rfl ?_
  refine zz_E.n 43 rfl rfl rfl ?_
  refine zz_E.n 44 rfl rfl rfl ?_
  refine zz_E.n 45 rfl rfl rfl ?_
  refine zz_E.n 46 rfl rfl rfl ?_
  refine zz_E.n 47 rfl rfl rfl ?_
  refine zz_E.n 48 rfl rfl rfl ?_
  refine zz_E.n 51 rfl rfl rfl ?_
  refine zz_E.n 52 rfl rfl rfl ?_
  refine zz_E.n 53 rfl rfl rfl ?_
  refine zz_E.n 54 rfl rfl rfl ?_
  refine zz_E.t (.int 1) 55 rfl rfl rfl ?_
  refine zz_E.n 56 rfl rfl rfl ?_
  refine zz_E.ret rfl rfl rfl ?_
  refine zz_E.n 14 rfl rfl rfl ?_
  refine zz_E.n 15 rfl rfl rfl ?_
  refine zz_E.n 16 rfl rfl rfl ?_
  refine zz_E.cl (M' := zm_25) 19 rfl rfl (by decide) rfl rfl ⟨rfl, Nat.le_of_ble_eq_true rfl⟩ rfl ?_
  refine zz_E.n 1 rfl rfl rfl ?_
  refine zz_E.n 4 rfl rfl rfl ?_
  refine zz_E.n 5 rfl rfl rfl ?_
  refine zz_E.t (.int 1) 6 rfl rfl rfl ?_
  refine zz_E.n 7 rfl rfl rfl ?_
  refine zz_E.n 8 rfl rfl rfl ?_
  refine zz_E.n 9 rfl rfl rfl ?_
  refine zz_E.n 12 rfl rfl rfl ?_
  refine zz_E.n 13 rfl rfl rfl ?_
  refine zz_E.n 14 rfl rfl rfl ?_
  refine zz_E.n 15 rfl rfl rfl ?_
  refine zz_E.kt 38 rfl (by rfl) (by decide) rfl ?_
  refine zz_E.n 39 rfl rfl rfl ?_
  refine zz_E.n 42 rfl rfl rfl ?_
  refine zz_E.n 43 rfl rfl rfl ?_
  refine zz_E.n 44 rfl rfl rfl ?_
  refine zz_E.n 45 rfl rfl rfl ?_
  refine zz_E.n 46 rfl rfl rfl ?_
  refine zz_E.n 47 rfl rfl rfl ?_
  refine zz_E.n 48 rfl rfl rfl ?_
  refine zz_E.n 51 rfl rfl rfl ?_
  refine zz_E.n 52 rfl rfl rfl ?_
  refine zz_E.n 53 rfl rfl rfl ?_
  refine zz_E.n 54 rfl rfl rfl ?_
  refine zz_E.t (.int 2) 55 rfl rfl rfl ?_
  refine zz_E.n 56 rfl rfl rfl ?_
  refine zz_E.ret rfl rfl rfl ?_
  refine zz_E.ret rfl rfl rfl ?_
  refine zz_E.n 19 rfl rfl rfl ?_
  refine zz_E.ret rfl rfl rfl ?_
  refine zz_E.n 406 rfl rfl rfl ?_
  refine zz_E.n 407 rfl rfl rfl ?_
  refine zz_E.n 408 rfl rfl rfl ?_
  refine zz_E.n 409 rfl rfl rfl ?_
  refine zz_E.t (.int 1) 410 rfl rfl rfl ?_
  refine zz_E.t (.int 0) 411 rfl rfl rfl ?_
  refine zz_E.n 412 rfl rfl rfl ?_
  refine zz_E.n 413 rfl rfl rfl ?_
  refine zz_E.n 414 rfl rfl rfl ?_
  refine zz_E.t (.int 2) 415 rfl rfl rfl ?_
  refine zz_E.n 416 rfl rfl rfl ?_
  refine zz_E.cl (M' := zm_74) 419 rfl rfl (by decide) rfl rfl ⟨rfl, Nat.le_of_ble_eq_true rfl⟩ rfl ?_
  refine zz_E.n 1 rfl rfl rfl ?_
  refine zz_E.cl (M' := zm_73) 4 rfl rfl (by decide) rfl rfl ⟨rfl, Nat.le_of_ble_eq_true rfl⟩ rfl ?_
  refine zz_E.n 1 rfl rfl rfl ?_
  refine zz_E.jf 4 rfl (by rfl) (by decide) rfl ?_
  refine zz_E.n 5 rfl rfl rfl ?_
  refine zz_E.n 7 rfl rfl rfl ?_
  refine zz_E.kf 10 rfl (by rfl) (by decide) rfl ?_
  refine zz_E.n 11 rfl rfl rfl ?_
  refine zz_E.n 15 rfl rfl rfl ?_
  refine zz_E.ret rfl rfl rfl ?_
  refine zz_E.jt 9 rfl (by rfl) (by decide) rfl ?_
  refine zz_E.n 10 rfl rfl rfl ?_
  refine zz_E.n 11 rfl rfl rfl ?_
  refine zz_E.n 12 rfl rfl rfl ?_
  refine zz_E.n 15 rfl rfl rfl ?_
  refine zz_E.n 16 rfl rfl rfl ?_
  refine zz_E.t (.int 0) 17 rfl rfl rfl ?_
  refine zz_E.cl (M' := zm_75) 20 rfl rfl (by decide) rfl rfl ⟨rfl, Nat.le_of_ble_eq_true rfl⟩ rfl ?_
  refine zz_E.n 1 rfl rfl rfl ?_
  refine zz_E.n 2 rfl rfl rfl ?_
  refine zz_E.kt 13 rfl (by rfl) (by decide) rfl ?_
  refine zz_E.n 14 rfl rfl rfl ?_
  refine zz_E.jf 17 rfl (by rfl) (by decide) rfl ?_
  refine zz_E.n 18 rfl rfl rfl ?_
  refine zz_E.n 21 rfl rfl rfl ?_
  refine zz_E.n 22 rfl rfl rfl ?_
  refine zz_E.n 23 rfl rfl rfl ?_
  refine zz_E.n 24 rfl rfl rfl ?_
  refine zz_E.n 25 rfl rfl rfl ?_
  refine zz_E.n 28 rfl rfl rfl ?_
  refine zz_E.n 29 rfl rfl rfl ?_
  refine zz_E.n 30 rfl rfl rfl ?_
  refine zz_E.t (.int 1) 31 rfl rfl rfl ?_
  refine zz_E.n 32 rfl rfl rfl ?_
  refine zz_E.n 33 rfl rfl rfl ?_
  refine zz_E.ret rfl rfl rfl ?_
  refine zz_E.n 21 rfl rfl rfl ?_
  refine zz_E.ret rfl rfl rfl ?_
  refine zz_E.kt 652 rfl (by rfl) (by decide) rfl ?_
  refine zz_E.n 655 rfl rfl rfl ?_
  refine zz_E.n 18 rfl rfl rfl ?_
  refine zz_E.n 19 rfl rfl rfl ?_
  refine zz_E.n 20 rfl rfl rfl ?_
  refine zz_E.n 21 rfl rfl rfl ?_
  refine zz_E.n 23 rfl rfl rfl ?_
  refine zz_E.t (.int 0) 24 rfl rfl rfl ?_
  refine zz_E.kt 658 rfl (by rfl) (by decide) rfl ?_
  refine zz_E.n 659 rfl rfl rfl ?_
  refine zz_E.ret rfl rfl rfl ?_
  refine ⟨rfl, by simp only [List.length_set]; exact zv_lnh, zv_sl0 ?_⟩
  repeat (first | refine zv_slA ?_ (by decide) | refine zv_slO ?_ (by decide))
  exact Nat.le_trans (Nat.add_le_add_right zv_slh _) (by decide)
set_option maxRecDepth 100000 in
set_option maxHeartbeats 8000000 in
theorem zv_k9_1 (xs : Nat → Int32) : zz_E zp_P zt_tf zt_fd (zt_X 6 (fun q => if q = 1 then nI 1 else xs q)) 1000 zm_law 33 zv_L [.int (nI 9)] zv_h zv_Q := by
  refine zz_E.n 391 rfl rfl rfl ?_
  refine zz_E.n 392 rfl rfl rfl ?_
  refine zz_E.n 393 rfl rfl rfl ?_
  refine zz_E.n 394 rfl rfl rfl ?_
  refine zz_E.n 395 rfl rfl rfl ?_
  refine zz_E.t (.int 1) 396 rfl rfl rfl ?_
  refine zz_E.t (.int 1) 397 rfl rfl rfl ?_
  refine zz_E.n 398 rfl rfl rfl ?_
  refine zz_E.n 399 rfl rfl rfl ?_
  refine zz_E.n 400 rfl rfl rfl ?_
  refine zz_E.t (.int 2) 401 rfl rfl rfl ?_
  refine zz_E.n 402 rfl rfl rfl ?_
  refine zz_E.cl (M' := zm_11) 405 rfl rfl (by decide) rfl rfl ⟨rfl, Nat.le_of_ble_eq_true rfl⟩ rfl ?_
  refine zz_E.n 1 rfl rfl rfl ?_
  refine zz_E.cl (M' := zm_21) 4 rfl rfl (by decide) rfl rfl ⟨rfl, Nat.le_of_ble_eq_true rfl⟩ rfl ?_
  refine zz_E.n 1 rfl rfl rfl ?_
  refine zz_E.jf 4 rfl (by rfl) (by decide) rfl ?_
  refine zz_E.n 5 rfl rfl rfl ?_
  refine zz_E.n 7 rfl rfl rfl ?_
  refine zz_E.kf 10 rfl (by rfl) (by decide) rfl ?_
  refine zz_E.n 11 rfl rfl rfl ?_
  refine zz_E.n 15 rfl rfl rfl ?_
  refine zz_E.ret rfl rfl rfl ?_
  refine zz_E.jt 9 rfl (by rfl) (by decide) rfl ?_
  refine zz_E.n 10 rfl rfl rfl ?_
  refine zz_E.n 13 rfl rfl rfl ?_
  refine zz_E.n 14 rfl rfl rfl ?_
  refine zz_E.n 15 rfl rfl rfl ?_
  refine zz_E.cl (M' := zm_24) 18 rfl rfl (by decide) rfl rfl ⟨rfl, Nat.le_of_ble_eq_true rfl⟩ rfl ?_
  refine zz_E.n 1 rfl rfl rfl ?_
  refine zz_E.n 4 rfl rfl rfl ?_
  refine zz_E.n 5 rfl rfl rfl ?_
  refine zz_E.n 6 rfl rfl rfl ?_
  refine zz_E.n 7 rfl rfl rfl ?_
  refine zz_E.n 8 rfl rfl rfl ?_
  refine zz_E.n 9 rfl rfl rfl ?_
  refine zz_E.n 10 rfl rfl rfl ?_
  refine zz_E.cl (M' := zm_25) 13 rfl rfl (by decide) rfl rfl ⟨rfl, Nat.le_of_ble_eq_true rfl⟩ rfl ?_
  refine zz_E.n 1 rfl rfl rfl ?_
  refine zz_E.n 4 rfl rfl rfl ?_
  refine zz_E.n 5 rfl rfl rfl ?_
  refine zz_E.t (.int 0) 6 rfl rfl rfl ?_
  refine zz_E.n 7 rfl rfl rfl ?_
  refine zz_E.n 8 rfl rfl rfl ?_
  refine zz_E.n 9 rfl rfl rfl ?_
  refine zz_E.n 12 rfl rfl rfl ?_
  refine zz_E.n 13 rfl rfl rfl ?_
  refine zz_E.n 14 rfl rfl rfl ?_
  refine zz_E.n 15 rfl rfl rfl ?_
  refine zz_E.kt 38 rfl (by rfl) (by decide) rfl ?_
  refine zz_E.n 39 rfl rfl rfl ?_
  refine zz_E.n 42 rfl rfl rfl ?_
  refine zz_E.n 43 rfl rfl rfl ?_
  refine zz_E.n 44 rfl rfl rfl ?_
  refine zz_E.n 45 rfl rfl rfl ?_
  refine zz_E.n 46 rfl rfl rfl ?_
  refine zz_E.n 47 rfl rfl rfl ?_
  refine zz_E.n 48 rfl rfl rfl ?_
  refine zz_E.n 51 rfl rfl rfl ?_
  refine zz_E.n 52 rfl rfl rfl ?_
  refine zz_E.n 53 rfl rfl rfl ?_
  refine zz_E.n 54 rfl rfl rfl ?_
  refine zz_E.t (.int 1) 55 rfl rfl rfl ?_
  refine zz_E.n 56 rfl rfl rfl ?_
  refine zz_E.ret rfl rfl rfl ?_
  refine zz_E.n 14 rfl rfl rfl ?_
  refine zz_E.n 15 rfl rfl rfl ?_
  refine zz_E.n 16 rfl rfl rfl ?_
  refine zz_E.cl (M' := zm_25) 19 rfl rfl (by decide) rfl rfl ⟨rfl, Nat.le_of_ble_eq_true rfl⟩ rfl ?_
  refine zz_E.n 1 rfl rfl rfl ?_
  refine zz_E.n 4 rfl rfl rfl ?_
  refine zz_E.n 5 rfl rfl rfl ?_
  refine zz_E.t (.int 1) 6 rfl rfl rfl ?_
  refine zz_E.n 7 rfl rfl rfl ?_
  refine zz_E.n 8 rfl rfl rfl ?_
  refine zz_E.n 9 rfl rfl rfl ?_
  refine zz_E.n 12 rfl rfl rfl ?_
  refine zz_E.n 13 rfl rfl rfl ?_
  refine zz_E.n 14 rfl rfl rfl ?_
  refine zz_E.n 15 rfl rfl rfl ?_
  refine zz_E.kt 38 rfl (by rfl) (by decide) rfl ?_
  refine zz_E.n 39 rfl rfl rfl ?_
  refine zz_E.n 42 rfl rfl rfl ?_
  refine zz_E.n 43 rfl rfl rfl ?_
  refine zz_E.n 44 rfl rfl rfl ?_
  refine zz_E.n 45 rfl rfl rfl ?_
  refine zz_E.n 46 rfl rfl rfl ?_
  refine zz_E.n 47 rfl rfl rfl ?_
  refine zz_E.n 48 rfl rfl rfl ?_
  refine zz_E.n 51 rfl rfl rfl ?_
  refine zz_E.n 52 rfl rfl rfl ?_
  refine zz_E.n 53 rfl rfl rfl ?_
  refine zz_E.n 54 rfl rfl rfl ?_
  refine zz_E.t (.int 2) 55 rfl rfl rfl ?_
  refine zz_E.n 56 rfl rfl rfl ?_
  refine zz_E.ret rfl rfl rfl ?_
  refine zz_E.ret rfl rfl rfl ?_
  refine zz_E.n 19 rfl rfl rfl ?_
  refine zz_E.ret rfl rfl rfl ?_
  refine zz_E.n 406 rfl rfl rfl ?_
  refine zz_E.n 407 rfl rfl rfl ?_
  refine zz_E.n 408 rfl rfl rfl ?_
  refine zz_E.n 409 rfl rfl rfl ?_
  refine zz_E.t (.int 1) 410 rfl rfl rfl ?_
  refine zz_E.t (.int 1) 411 rfl rfl rfl ?_
  refine zz_E.n 412 rfl rfl rfl ?_
  refine zz_E.n 413 rfl rfl rfl ?_
  refine zz_E.n 414 rfl rfl rfl ?_
  refine zz_E.t (.int 2) 415 rfl rfl rfl ?_
  refine zz_E.n 416 rfl rfl rfl ?_
  refine zz_E.cl (M' := zm_74) 419 rfl rfl (by decide) rfl rfl ⟨rfl, Nat.le_of_ble_eq_true rfl⟩ rfl ?_
  refine zz_E.n 1 rfl rfl rfl ?_
  refine zz_E.cl (M' := zm_73) 4 rfl rfl (by decide) rfl rfl ⟨rfl, Nat.le_of_ble_eq_true rfl⟩ rfl ?_
  refine zz_E.n 1 rfl rfl rfl ?_
  refine zz_E.jf 4 rfl (by rfl) (by decide) rfl ?_
  refine zz_E.n 5 rfl rfl rfl ?_
  refine zz_E.n 7 rfl rfl rfl ?_
  refine zz_E.kf 10 rfl (by rfl) (by decide) rfl ?_
  refine zz_E.n 11 rfl rfl rfl ?_
  refine zz_E.n 15 rfl rfl rfl ?_
  refine zz_E.ret rfl rfl rfl ?_
  refine zz_E.jt 9 rfl (by rfl) (by decide) rfl ?_
  refine zz_E.n 10 rfl rfl rfl ?_
  refine zz_E.n 11 rfl rfl rfl ?_
  refine zz_E.n 12 rfl rfl rfl ?_
  refine zz_E.n 15 rfl rfl rfl ?_
  refine zz_E.n 16 rfl rfl rfl ?_
  refine zz_E.t (.int 2410) 17 rfl rfl rfl ?_
  refine zz_E.cl (M' := zm_75) 20 rfl rfl (by decide) rfl rfl ⟨rfl, Nat.le_of_ble_eq_true rfl⟩ rfl ?_
  refine zz_E.n 1 rfl rfl rfl ?_
  refine zz_E.n 2 rfl rfl rfl ?_
  refine zz_E.kt 13 rfl (by rfl) (by decide) rfl ?_
  refine zz_E.n 14 rfl rfl rfl ?_
  refine zz_E.jf 17 rfl (by rfl) (by decide) rfl ?_
  refine zz_E.n 18 rfl rfl rfl ?_
  refine zz_E.n 21 rfl rfl rfl ?_
  refine zz_E.n 22 rfl rfl rfl ?_
  refine zz_E.n 23 rfl rfl rfl ?_
  refine zz_E.n 24 rfl rfl rfl ?_
  refine zz_E.n 25 rfl rfl rfl ?_
  refine zz_E.n 28 rfl rfl rfl ?_
  refine zz_E.n 29 rfl rfl rfl ?_
  refine zz_E.n 30 rfl rfl rfl ?_
  refine zz_E.t (.int 2411) 31 rfl rfl rfl ?_
  refine zz_E.n 32 rfl rfl rfl ?_
  refine zz_E.n 33 rfl rfl rfl ?_
  refine zz_E.ret rfl rfl rfl ?_
  refine zz_E.n 21 rfl rfl rfl ?_
  refine zz_E.ret rfl rfl rfl ?_
  refine zz_E.kt 652 rfl (by rfl) (by decide) rfl ?_
  refine zz_E.n 655 rfl rfl rfl ?_
  refine zz_E.n 18 rfl rfl rfl ?_
  refine zz_E.n 19 rfl rfl rfl ?_
  refine zz_E.n 20 rfl rfl rfl ?_
  refine zz_E.n 21 rfl rfl rfl ?_
  refine zz_E.n 23 rfl rfl rfl ?_
  refine zz_E.t (.int 0) 24 rfl rfl rfl ?_
  refine zz_E.kt 658 rfl (by rfl) (by decide) rfl ?_
  refine zz_E.n 659 rfl rfl rfl ?_
  refine zz_E.ret rfl rfl rfl ?_
  refine ⟨rfl, by simp only [List.length_set]; exact zv_lnh, zv_sl0 ?_⟩
  repeat (first | refine zv_slA ?_ (by decide) | refine zv_slO ?_ (by decide))
  exact Nat.le_trans (Nat.add_le_add_right zv_slh _) (by decide)
set_option maxRecDepth 100000 in
set_option maxHeartbeats 8000000 in
theorem zv_k9_2 (xs : Nat → Int32) : zz_E zp_P zt_tf zt_fd (zt_X 6 (fun q => if q = 1 then nI 2 else xs q)) 1000 zm_law 33 zv_L [.int (nI 9)] zv_h zv_Q := by
  refine zz_E.n 391 rfl rfl rfl ?_
  refine zz_E.n 392 rfl rfl rfl ?_
  refine zz_E.n 393 rfl rfl rfl ?_
  refine zz_E.n 394 rfl rfl rfl ?_
  refine zz_E.n 395 rfl rfl rfl ?_
  refine zz_E.t (.int 1) 396 rfl rfl rfl ?_
  refine zz_E.t (.int 2) 397 rfl rfl rfl ?_
  refine zz_E.n 398 rfl rfl rfl ?_
  refine zz_E.n 399 rfl rfl rfl ?_
  refine zz_E.n 400 rfl rfl rfl ?_
  refine zz_E.t (.int 2) 401 rfl rfl rfl ?_
  refine zz_E.n 402 rfl rfl rfl ?_
  refine zz_E.cl (M' := zm_11) 405 rfl rfl (by decide) rfl rfl ⟨rfl, Nat.le_of_ble_eq_true rfl⟩ rfl ?_
  refine zz_E.n 1 rfl rfl rfl ?_
  refine zz_E.cl (M' := zm_21) 4 rfl rfl (by decide) rfl rfl ⟨rfl, Nat.le_of_ble_eq_true rfl⟩ rfl ?_
  refine zz_E.n 1 rfl rfl rfl ?_
  refine zz_E.jf 4 rfl (by rfl) (by decide) rfl ?_
  refine zz_E.n 5 rfl rfl rfl ?_
  refine zz_E.n 7 rfl rfl rfl ?_
  refine zz_E.kf 10 rfl (by rfl) (by decide) rfl ?_
  refine zz_E.n 11 rfl rfl rfl ?_
  refine zz_E.n 15 rfl rfl rfl ?_
  refine zz_E.ret rfl rfl rfl ?_
  refine zz_E.jt 9 rfl (by rfl) (by decide) rfl ?_
  refine zz_E.n 10 rfl rfl rfl ?_
  refine zz_E.n 13 rfl rfl rfl ?_
  refine zz_E.n 14 rfl rfl rfl ?_
  refine zz_E.n 15 rfl rfl rfl ?_
  refine zz_E.cl (M' := zm_24) 18 rfl rfl (by decide) rfl rfl ⟨rfl, Nat.le_of_ble_eq_true rfl⟩ rfl ?_
  refine zz_E.n 1 rfl rfl rfl ?_
  refine zz_E.n 4 rfl rfl rfl ?_
  refine zz_E.n 5 rfl rfl rfl ?_
  refine zz_E.n 6 rfl rfl rfl ?_
  refine zz_E.n 7 rfl rfl rfl ?_
  refine zz_E.n 8 rfl rfl rfl ?_
  refine zz_E.n 9 rfl rfl rfl ?_
  refine zz_E.n 10 rfl rfl rfl ?_
  refine zz_E.cl (M' := zm_25) 13 rfl rfl (by decide) rfl rfl ⟨rfl, Nat.le_of_ble_eq_true rfl⟩ rfl ?_
  refine zz_E.n 1 rfl rfl rfl ?_
  refine zz_E.n 4 rfl rfl rfl ?_
  refine zz_E.n 5 rfl rfl rfl ?_
  refine zz_E.t (.int 0) 6 rfl rfl rfl ?_
  refine zz_E.n 7 rfl rfl rfl ?_
  refine zz_E.n 8 rfl rfl rfl ?_
  refine zz_E.n 9 rfl rfl rfl ?_
  refine zz_E.n 12 rfl rfl rfl ?_
  refine zz_E.n 13 rfl rfl rfl ?_
  refine zz_E.n 14 rfl rfl rfl ?_
  refine zz_E.n 15 rfl rfl rfl ?_
  refine zz_E.kt 38 rfl (by rfl) (by decide) rfl ?_
  refine zz_E.n 39 rfl rfl rfl ?_
  refine zz_E.n 42 rfl rfl rfl ?_
  refine zz_E.n 43 rfl rfl rfl ?_
  refine zz_E.n 44 rfl rfl rfl ?_
  refine zz_E.n 45 rfl rfl rfl ?_
  refine zz_E.n 46 rfl rfl rfl ?_
  refine zz_E.n 47 rfl rfl rfl ?_
  refine zz_E.n 48 rfl rfl rfl ?_
  refine zz_E.n 51 rfl rfl rfl ?_
  refine zz_E.n 52 rfl rfl rfl ?_
  refine zz_E.n 53 rfl rfl rfl ?_
  refine zz_E.n 54 rfl rfl rfl ?_
  refine zz_E.t (.int 1) 55 rfl rfl rfl ?_
  refine zz_E.n 56 rfl rfl rfl ?_
  refine zz_E.ret rfl rfl rfl ?_
  refine zz_E.n 14 rfl rfl rfl ?_
  refine zz_E.n 15 rfl rfl rfl ?_
  refine zz_E.n 16 rfl rfl rfl ?_
  refine zz_E.cl (M' := zm_25) 19 rfl rfl (by decide) rfl rfl ⟨rfl, Nat.le_of_ble_eq_true rfl⟩ rfl ?_
  refine zz_E.n 1 rfl rfl rfl ?_
  refine zz_E.n 4 rfl rfl rfl ?_
  refine zz_E.n 5 rfl rfl rfl ?_
  refine zz_E.t (.int 1) 6 rfl rfl rfl ?_
  refine zz_E.n 7 rfl rfl rfl ?_
  refine zz_E.n 8 rfl rfl rfl ?_
  refine zz_E.n 9 rfl rfl rfl ?_
  refine zz_E.n 12 rfl rfl rfl ?_
  refine zz_E.n 13 rfl rfl rfl ?_
  refine zz_E.n 14 rfl rfl rfl ?_
  refine zz_E.n 15 rfl rfl rfl ?_
  refine zz_E.kt 38 rfl (by rfl) (by decide) rfl ?_
  refine zz_E.n 39 rfl rfl rfl ?_
  refine zz_E.n 42 rfl rfl rfl ?_
  refine zz_E.n 43 rfl rfl rfl ?_
  refine zz_E.n 44 rfl rfl rfl ?_
  refine zz_E.n 45 rfl rfl rfl ?_
  refine zz_E.n 46 rfl rfl rfl ?_
  refine zz_E.n 47 rfl rfl rfl ?_
  refine zz_E.n 48 rfl rfl rfl ?_
  refine zz_E.n 51 rfl rfl rfl ?_
  refine zz_E.n 52 rfl rfl rfl ?_
  refine zz_E.n 53 rfl rfl rfl ?_
  refine zz_E.n 54 rfl rfl rfl ?_
  refine zz_E.t (.int 2) 55 rfl rfl rfl ?_
  refine zz_E.n 56 rfl rfl rfl ?_
  refine zz_E.ret rfl rfl rfl ?_
  refine zz_E.ret rfl rfl rfl ?_
  refine zz_E.n 19 rfl rfl rfl ?_
  refine zz_E.ret rfl rfl rfl ?_
  refine zz_E.n 406 rfl rfl rfl ?_
  refine zz_E.n 407 rfl rfl rfl ?_
  refine zz_E.n 408 rfl rfl rfl ?_
  refine zz_E.n 409 rfl rfl rfl ?_
  refine zz_E.t (.int 1) 410 rfl rfl rfl ?_
  refine zz_E.t (.int 2) 411 rfl rfl rfl ?_
  refine zz_E.n 412 rfl rfl rfl ?_
  refine zz_E.n 413 rfl rfl rfl ?_
  refine zz_E.n 414 rfl rfl rfl ?_
  refine zz_E.t (.int 2) 415 rfl rfl rfl ?_
  refine zz_E.n 416 rfl rfl rfl ?_
  refine zz_E.cl (M' := zm_74) 419 rfl rfl (by decide) rfl rfl ⟨rfl, Nat.le_of_ble_eq_true rfl⟩ rfl ?_
  refine zz_E.n 1 rfl rfl rfl ?_
  refine zz_E.cl (M' := zm_73) 4 rfl rfl (by decide) rfl rfl ⟨rfl, Nat.le_of_ble_eq_true rfl⟩ rfl ?_
  refine zz_E.n 1 rfl rfl rfl ?_
  refine zz_E.jf 4 rfl (by rfl) (by decide) rfl ?_
  refine zz_E.n 5 rfl rfl rfl ?_
  refine zz_E.n 7 rfl rfl rfl ?_
  refine zz_E.kf 10 rfl (by rfl) (by decide) rfl ?_
  refine zz_E.n 11 rfl rfl rfl ?_
  refine zz_E.n 15 rfl rfl rfl ?_
  refine zz_E.ret rfl rfl rfl ?_
  refine zz_E.jt 9 rfl (by rfl) (by decide) rfl ?_
  refine zz_E.n 10 rfl rfl rfl ?_
  refine zz_E.n 11 rfl rfl rfl ?_
  refine zz_E.n 12 rfl rfl rfl ?_
  refine zz_E.n 15 rfl rfl rfl ?_
  refine zz_E.n 16 rfl rfl rfl ?_
  refine zz_E.t (.int 4820) 17 rfl rfl rfl ?_
  refine zz_E.cl (M' := zm_75) 20 rfl rfl (by decide) rfl rfl ⟨rfl, Nat.le_of_ble_eq_true rfl⟩ rfl ?_
  refine zz_E.n 1 rfl rfl rfl ?_
  refine zz_E.n 2 rfl rfl rfl ?_
  refine zz_E.kt 13 rfl (by rfl) (by decide) rfl ?_
  refine zz_E.n 14 rfl rfl rfl ?_
  refine zz_E.jf 17 rfl (by rfl) (by decide) rfl ?_
  refine zz_E.n 18 rfl rfl rfl ?_
  refine zz_E.n 21 rfl rfl rfl ?_
  refine zz_E.n 22 rfl rfl rfl ?_
  refine zz_E.n 23 rfl rfl rfl ?_
  refine zz_E.n 24 rfl rfl rfl ?_
  refine zz_E.n 25 rfl rfl rfl ?_
  refine zz_E.n 28 rfl rfl rfl ?_
  refine zz_E.n 29 rfl rfl rfl ?_
  refine zz_E.n 30 rfl rfl rfl ?_
  refine zz_E.t (.int 4821) 31 rfl rfl rfl ?_
  refine zz_E.n 32 rfl rfl rfl ?_
  refine zz_E.n 33 rfl rfl rfl ?_
  refine zz_E.ret rfl rfl rfl ?_
  refine zz_E.n 21 rfl rfl rfl ?_
  refine zz_E.ret rfl rfl rfl ?_
  refine zz_E.kt 652 rfl (by rfl) (by decide) rfl ?_
  refine zz_E.n 655 rfl rfl rfl ?_
  refine zz_E.n 18 rfl rfl rfl ?_
  refine zz_E.n 19 rfl rfl rfl ?_
  refine zz_E.n 20 rfl rfl rfl ?_
  refine zz_E.n 21 rfl rfl rfl ?_
  refine zz_E.n 23 rfl rfl rfl ?_
  refine zz_E.t (.int 0) 24 rfl rfl rfl ?_
  refine zz_E.kt 658 rfl (by rfl) (by decide) rfl ?_
  refine zz_E.n 659 rfl rfl rfl ?_
  refine zz_E.ret rfl rfl rfl ?_
  refine ⟨rfl, by simp only [List.length_set]; exact zv_lnh, zv_sl0 ?_⟩
  repeat (first | refine zv_slA ?_ (by decide) | refine zv_slO ?_ (by decide))
  exact Nat.le_trans (Nat.add_le_add_right zv_slh _) (by decide)
set_option maxRecDepth 100000 in
set_option maxHeartbeats 8000000 in
theorem zv_k9_3 (xs : Nat → Int32) : zz_E zp_P zt_tf zt_fd (zt_X 6 (fun q => if q = 1 then nI 3 else xs q)) 1000 zm_law 33 zv_L [.int (nI 9)] zv_h zv_Q := by
  refine zz_E.n 391 rfl rfl rfl ?_
  refine zz_E.n 392 rfl rfl rfl ?_
  refine zz_E.n 393 rfl rfl rfl ?_
  refine zz_E.n 394 rfl rfl rfl ?_
  refine zz_E.n 395 rfl rfl rfl ?_
  refine zz_E.t (.int 1) 396 rfl rfl rfl ?_
  refine zz_E.t (.int 3) 397 rfl rfl rfl ?_
  refine zz_E.n 398 rfl rfl rfl ?_
  refine zz_E.n 399 rfl rfl rfl ?_
  refine zz_E.n 400 rfl rfl rfl ?_
  refine zz_E.t (.int 2) 401 rfl rfl rfl ?_
  refine zz_E.n 402 rfl rfl rfl ?_
  refine zz_E.cl (M' := zm_11) 405 rfl rfl (by decide) rfl rfl ⟨rfl, Nat.le_of_ble_eq_true rfl⟩ rfl ?_
  refine zz_E.n 1 rfl rfl rfl ?_
  refine zz_E.cl (M' := zm_21) 4 rfl rfl (by decide) rfl rfl ⟨rfl, Nat.le_of_ble_eq_true rfl⟩ rfl ?_
  refine zz_E.n 1 rfl rfl rfl ?_
  refine zz_E.jf 4 rfl (by rfl) (by decide) rfl ?_
  refine zz_E.n 5 rfl rfl rfl ?_
  refine zz_E.n 7 rfl rfl rfl ?_
  refine zz_E.kf 10 rfl (by rfl) (by decide) rfl ?_
  refine zz_E.n 11 rfl rfl rfl ?_
  refine zz_E.n 15 rfl rfl rfl ?_
  refine zz_E.ret rfl rfl rfl ?_
  refine zz_E.jt 9 rfl (by rfl) (by decide) rfl ?_
  refine zz_E.n 10 rfl rfl rfl ?_
  refine zz_E.n 13 rfl rfl rfl ?_
  refine zz_E.n 14 rfl rfl rfl ?_
  refine zz_E.n 15 rfl rfl rfl ?_
  refine zz_E.cl (M' := zm_24) 18 rfl rfl (by decide) rfl rfl ⟨rfl, Nat.le_of_ble_eq_true rfl⟩ rfl ?_
  refine zz_E.n 1 rfl rfl rfl ?_
  refine zz_E.n 4 rfl rfl rfl ?_
  refine zz_E.n 5 rfl rfl rfl ?_
  refine zz_E.n 6 rfl rfl rfl ?_
  refine zz_E.n 7 rfl rfl rfl ?_
  refine zz_E.n 8 rfl rfl rfl ?_
  refine zz_E.n 9 rfl rfl rfl ?_
  refine zz_E.n 10 rfl rfl rfl ?_
  refine zz_E.cl (M' := zm_25) 13 rfl rfl (by decide) rfl rfl ⟨rfl, Nat.le_of_ble_eq_true rfl⟩ rfl ?_
  refine zz_E.n 1 rfl rfl rfl ?_
  refine zz_E.n 4 rfl rfl rfl ?_
  refine zz_E.n 5 rfl rfl rfl ?_
  refine zz_E.t (.int 0) 6 rfl rfl rfl ?_
  refine zz_E.n 7 rfl rfl rfl ?_
  refine zz_E.n 8 rfl rfl rfl ?_
  refine zz_E.n 9 rfl rfl rfl ?_
  refine zz_E.n 12 rfl rfl rfl ?_
  refine zz_E.n 13 rfl rfl rfl ?_
  refine zz_E.n 14 rfl rfl rfl ?_
  refine zz_E.n 15 rfl rfl rfl ?_
  refine zz_E.kt 38 rfl (by rfl) (by decide) rfl ?_
  refine zz_E.n 39 rfl rfl rfl ?_
  refine zz_E.n 42 rfl rfl rfl ?_
  refine zz_E.n 43 rfl rfl rfl ?_
  refine zz_E.n 44 rfl rfl rfl ?_
  refine zz_E.n 45 rfl rfl rfl ?_
  refine zz_E.n 46 rfl rfl rfl ?_
  refine zz_E.n 47 rfl rfl rfl ?_
  refine zz_E.n 48 rfl rfl rfl ?_
  refine zz_E.n 51 rfl rfl rfl ?_
  refine zz_E.n 52 rfl rfl rfl ?_
  refine zz_E.n 53 rfl rfl rfl ?_
  refine zz_E.n 54 rfl rfl rfl ?_
  refine zz_E.t (.int 1) 55 rfl rfl rfl ?_
  refine zz_E.n 56 rfl rfl rfl ?_
  refine zz_E.ret rfl rfl rfl ?_
  refine zz_E.n 14 rfl rfl rfl ?_
  refine zz_E.n 15 rfl rfl rfl ?_
  refine zz_E.n 16 rfl rfl rfl ?_
  refine zz_E.cl (M' := zm_25) 19 rfl rfl (by decide) rfl rfl ⟨rfl, Nat.le_of_ble_eq_true rfl⟩ rfl ?_
  refine zz_E.n 1 rfl rfl rfl ?_
  refine zz_E.n 4 rfl rfl rfl ?_
  refine zz_E.n 5 rfl rfl rfl ?_
  refine zz_E.t (.int 1) 6 rfl rfl rfl ?_
  refine zz_E.n 7 rfl rfl rfl ?_
  refine zz_E.n 8 rfl rfl rfl ?_
  refine zz_E.n 9 rfl rfl rfl ?_
  refine zz_E.n 12 rfl rfl rfl ?_
  refine zz_E.n 13 rfl rfl rfl ?_
  refine zz_E.n 14 rfl rfl rfl ?_
  refine zz_E.n 15 rfl rfl rfl ?_
  refine zz_E.kt 38 rfl (by rfl) (by decide) rfl ?_
  refine zz_E.n 39 rfl rfl rfl ?_
  refine zz_E.n 42 rfl rfl rfl ?_
  refine zz_E.n 43 rfl rfl rfl ?_
  refine zz_E.n 44 rfl rfl rfl ?_
  refine zz_E.n 45 rfl rfl rfl ?_
  refine zz_E.n 46 rfl rfl rfl ?_
  refine zz_E.n 47 rfl rfl rfl ?_
  refine zz_E.n 48 rfl rfl rfl ?_
  refine zz_E.n 51 rfl rfl rfl ?_
  refine zz_E.n 52 rfl rfl rfl ?_
  refine zz_E.n 53 rfl rfl rfl ?_
  refine zz_E.n 54 rfl rfl rfl ?_
  refine zz_E.t (.int 2) 55 rfl rfl rfl ?_
  refine zz_E.n 56 rfl rfl rfl ?_
  refine zz_E.ret rfl rfl rfl ?_
  refine zz_E.ret rfl rfl rfl ?_
  refine zz_E.n 19 rfl rfl rfl ?_
  refine zz_E.ret rfl rfl rfl ?_
  refine zz_E.n 406 rfl rfl rfl ?_
  refine zz_E.n 407 rfl rfl rfl ?_
  refine zz_E.n 408 rfl rfl rfl ?_
  refine zz_E.n 409 rfl rfl rfl ?_
  refine zz_E.t (.int 1) 410 rfl rfl rfl ?_
  refine zz_E.t (.int 3) 411 rfl rfl rfl ?_
  refine zz_E.n 412 rfl rfl rfl ?_
  refine zz_E.n 413 rfl rfl rfl ?_
  refine zz_E.n 414 rfl rfl rfl ?_
  refine zz_E.t (.int 2) 415 rfl rfl rfl ?_
  refine zz_E.n 416 rfl rfl rfl ?_
  refine zz_E.cl (M' := zm_74) 419 rfl rfl (by decide) rfl rfl ⟨rfl, Nat.le_of_ble_eq_true rfl⟩ rfl ?_
  refine zz_E.n 1 rfl rfl rfl ?_
  refine zz_E.cl (M' := zm_73) 4 rfl rfl (by decide) rfl rfl ⟨rfl, Nat.le_of_ble_eq_true rfl⟩ rfl ?_
  refine zz_E.n 1 rfl rfl rfl ?_
  refine zz_E.jf 4 rfl (by rfl) (by decide) rfl ?_
  refine zz_E.n 5 rfl rfl rfl ?_
  refine zz_E.n 7 rfl rfl rfl ?_
  refine zz_E.kf 10 rfl (by rfl) (by decide) rfl ?_
  refine zz_E.n 11 rfl rfl rfl ?_
  refine zz_E.n 15 rfl rfl rfl ?_
  refine zz_E.ret rfl rfl rfl ?_
  refine zz_E.jt 9 rfl (by rfl) (by decide) rfl ?_
  refine zz_E.n 10 rfl rfl rfl ?_
  refine zz_E.n 11 rfl rfl rfl ?_
  refine zz_E.n 12 rfl rfl rfl ?_
  refine zz_E.n 15 rfl rfl rfl ?_
  refine zz_E.n 16 rfl rfl rfl ?_
  refine zz_E.t (.int 7230) 17 rfl rfl rfl ?_
  refine zz_E.cl (M' := zm_75) 20 rfl rfl (by decide) rfl rfl ⟨rfl, Nat.le_of_ble_eq_true rfl⟩ rfl ?_
  refine zz_E.n 1 rfl rfl rfl ?_
  refine zz_E.n 2 rfl rfl rfl ?_
  refine zz_E.kt 13 rfl (by rfl) (by decide) rfl ?_
  refine zz_E.n 14 rfl rfl rfl ?_
  refine zz_E.jf 17 rfl (by rfl) (by decide) rfl ?_
  refine zz_E.n 18 rfl rfl rfl ?_
  refine zz_E.n 21 rfl rfl rfl ?_
  refine zz_E.n 22 rfl rfl rfl ?_
  refine zz_E.n 23 rfl rfl rfl ?_
  refine zz_E.n 24 rfl rfl rfl ?_
  refine zz_E.n 25 rfl rfl rfl ?_
  refine zz_E.n 28 rfl rfl rfl ?_
  refine zz_E.n 29 rfl rfl rfl ?_
  refine zz_E.n 30 rfl rfl rfl ?_
  refine zz_E.t (.int 7231) 31 rfl rfl rfl ?_
  refine zz_E.n 32 rfl rfl rfl ?_
  refine zz_E.n 33 rfl rfl rfl ?_
  refine zz_E.ret rfl rfl rfl ?_
  refine zz_E.n 21 rfl rfl rfl ?_
  refine zz_E.ret rfl rfl rfl ?_
  refine zz_E.kt 652 rfl (by rfl) (by decide) rfl ?_
  refine zz_E.n 655 rfl rfl rfl ?_
  refine zz_E.n 18 rfl rfl rfl ?_
  refine zz_E.n 19 rfl rfl rfl ?_
  refine zz_E.n 20 rfl rfl rfl ?_
  refine zz_E.n 21 rfl rfl rfl ?_
  refine zz_E.n 23 rfl rfl rfl ?_
  refine zz_E.t (.int 0) 24 rfl rfl rfl ?_
  refine zz_E.kt 658 rfl (by rfl) (by decide) rfl ?_
  refine zz_E.n 659 rfl rfl rfl ?_
  refine zz_E.ret rfl rfl rfl ?_
  refine ⟨rfl, by simp only [List.length_set]; exact zv_lnh, zv_sl0 ?_⟩
  repeat (first | refine zv_slA ?_ (by decide) | refine zv_slO ?_ (by decide))
  exact Nat.le_trans (Nat.add_le_add_right zv_slh _) (by decide)
set_option maxRecDepth 100000 in
set_option maxHeartbeats 8000000 in
theorem zv_k9_4 (xs : Nat → Int32) : zz_E zp_P zt_tf zt_fd (zt_X 6 (fun q => if q = 1 then nI 4 else xs q)) 1000 zm_law 33 zv_L [.int (nI 9)] zv_h zv_Q := by
  refine zz_E.n 391 rfl rfl rfl ?_
  refine zz_E.n 392 rfl rfl rfl ?_
  refine zz_E.n 393 rfl rfl rfl ?_
  refine zz_E.n 394 rfl rfl rfl ?_
  refine zz_E.n 395 rfl rfl rfl ?_
  refine zz_E.t (.int 1) 396 rfl rfl rfl ?_
  refine zz_E.t (.int 4) 397 rfl rfl rfl ?_
  refine zz_E.n 398 rfl rfl rfl ?_
  refine zz_E.n 399 rfl rfl rfl ?_
  refine zz_E.n 400 rfl rfl rfl ?_
  refine zz_E.t (.int 2) 401 rfl rfl rfl ?_
  refine zz_E.n 402 rfl rfl rfl ?_
  refine zz_E.cl (M' := zm_11) 405 rfl rfl (by decide) rfl rfl ⟨rfl, Nat.le_of_ble_eq_true rfl⟩ rfl ?_
  refine zz_E.n 1 rfl rfl rfl ?_
  refine zz_E.cl (M' := zm_21) 4 rfl rfl (by decide) rfl rfl ⟨rfl, Nat.le_of_ble_eq_true rfl⟩ rfl ?_
  refine zz_E.n 1 rfl rfl rfl ?_
  refine zz_E.jf 4 rfl (by rfl) (by decide) rfl ?_
  refine zz_E.n 5 rfl rfl rfl ?_
  refine zz_E.n 7 rfl rfl rfl ?_
  refine zz_E.kf 10 rfl (by rfl) (by decide) rfl ?_
  refine zz_E.n 11 rfl rfl rfl ?_
  refine zz_E.n 15 rfl rfl rfl ?_
  refine zz_E.ret rfl rfl rfl ?_
  refine zz_E.jt 9 rfl (by rfl) (by decide) rfl ?_
  refine zz_E.n 10 rfl rfl rfl ?_
  refine zz_E.n 13 rfl rfl rfl ?_
  refine zz_E.n 14 rfl rfl rfl ?_
  refine zz_E.n 15 rfl rfl rfl ?_
  refine zz_E.cl (M' := zm_24) 18 rfl rfl (by decide) rfl rfl ⟨rfl, Nat.le_of_ble_eq_true rfl⟩ rfl ?_
  refine zz_E.n 1 rfl rfl rfl ?_
  refine zz_E.n 4 rfl rfl rfl ?_
  refine zz_E.n 5 rfl rfl rfl ?_
  refine zz_E.n 6 rfl rfl rfl ?_
  refine zz_E.n 7 rfl rfl rfl ?_
  refine zz_E.n 8 rfl rfl rfl ?_
  refine zz_E.n 9 rfl rfl rfl ?_
  refine zz_E.n 10 rfl rfl rfl ?_
  refine zz_E.cl (M' := zm_25) 13 rfl rfl (by decide) rfl rfl ⟨rfl, Nat.le_of_ble_eq_true rfl⟩ rfl ?_
  refine zz_E.n 1 rfl rfl rfl ?_
  refine zz_E.n 4 rfl rfl rfl ?_
  refine zz_E.n 5 rfl rfl rfl ?_
  refine zz_E.t (.int 0) 6 rfl rfl rfl ?_
  refine zz_E.n 7 rfl rfl rfl ?_
  refine zz_E.n 8 rfl rfl rfl ?_
  refine zz_E.n 9 rfl rfl rfl ?_
  refine zz_E.n 12 rfl rfl rfl ?_
  refine zz_E.n 13 rfl rfl rfl ?_
  refine zz_E.n 14 rfl rfl rfl ?_
  refine zz_E.n 15 rfl rfl rfl ?_
  refine zz_E.kt 38 rfl (by rfl) (by decide) rfl ?_
  refine zz_E.n 39 rfl rfl rfl ?_
  refine zz_E.n 42 rfl rfl rfl ?_
  refine zz_E.n 43 rfl rfl rfl ?_
  refine zz_E.n 44 rfl rfl rfl ?_
  refine zz_E.n 45 rfl rfl rfl ?_
  refine zz_E.n 46 rfl rfl rfl ?_
  refine zz_E.n 47 rfl rfl rfl ?_
  refine zz_E.n 48 rfl rfl rfl ?_
  refine zz_E.n 51 rfl rfl rfl ?_
  refine zz_E.n 52 rfl rfl rfl ?_
  refine zz_E.n 53 rfl rfl rfl ?_
  refine zz_E.n 54 rfl rfl rfl ?_
  refine zz_E.t (.int 1) 55 rfl rfl rfl ?_
  refine zz_E.n 56 rfl rfl rfl ?_
  refine zz_E.ret rfl rfl rfl ?_
  refine zz_E.n 14 rfl rfl rfl ?_
  refine zz_E.n 15 rfl rfl rfl ?_
  refine zz_E.n 16 rfl rfl rfl ?_
  refine zz_E.cl (M' := zm_25) 19 rfl rfl (by decide) rfl rfl ⟨rfl, Nat.le_of_ble_eq_true rfl⟩ rfl ?_
  refine zz_E.n 1 rfl rfl rfl ?_
  refine zz_E.n 4 rfl rfl rfl ?_
  refine zz_E.n 5 rfl rfl rfl ?_
  refine zz_E.t (.int 1) 6 rfl rfl rfl ?_
  refine zz_E.n 7 rfl rfl rfl ?_
  refine zz_E.n 8 rfl rfl rfl ?_
  refine zz_E.n 9 rfl rfl rfl ?_
  refine zz_E.n 12 rfl rfl rfl ?_
  refine zz_E.n 13 rfl rfl rfl ?_
  refine zz_E.n 14 rfl rfl rfl ?_
  refine zz_E.n 15 rfl rfl rfl ?_
  refine zz_E.kt 38 rfl (by rfl) (by decide) rfl ?_
  refine zz_E.n 39 rfl rfl rfl ?_
  refine zz_E.n 42 rfl rfl rfl ?_
  refine zz_E.n 43 rfl rfl rfl ?_
  refine zz_E.n 44 rfl rfl rfl ?_
  refine zz_E.n 45 rfl rfl rfl ?_
  refine zz_E.n 46 rfl rfl rfl ?_
  refine zz_E.n 47 rfl rfl rfl ?_
  refine zz_E.n 48 rfl rfl rfl ?_
  refine zz_E.n 51 rfl rfl rfl ?_
  refine zz_E.n 52 rfl rfl rfl ?_
  refine zz_E.n 53 rfl rfl rfl ?_
  refine zz_E.n 54 rfl rfl rfl ?_
  refine zz_E.t (.int 2) 55 rfl rfl rfl ?_
  refine zz_E.n 56 rfl rfl rfl ?_
  refine zz_E.ret rfl rfl rfl ?_
  refine zz_E.ret rfl rfl rfl ?_
  refine zz_E.n 19 rfl rfl rfl ?_
  refine zz_E.ret rfl rfl rfl ?_
  refine zz_E.n 406 rfl rfl rfl ?_
  refine zz_E.n 407 rfl rfl rfl ?_
  refine zz_E.n 408 rfl rfl rfl ?_
  refine zz_E.n 409 rfl rfl rfl ?_
  refine zz_E.t (.int 1) 410 rfl rfl rfl ?_
  refine zz_E.t (.int 4) 411 rfl rfl rfl ?_
  refine zz_E.n 412 rfl rfl rfl ?_
  refine zz_E.n 413 rfl rfl rfl ?_
  refine zz_E.n 414 rfl rfl rfl ?_
  refine zz_E.t (.int 2) 415 rfl rfl rfl ?_
  refine zz_E.n 416 rfl rfl rfl ?_
  refine zz_E.cl (M' := zm_74) 419 rfl rfl (by decide) rfl rfl ⟨rfl, Nat.le_of_ble_eq_true rfl⟩ rfl ?_
  refine zz_E.n 1 rfl rfl rfl ?_
  refine zz_E.cl (M' := zm_73) 4 rfl rfl (by decide) rfl rfl ⟨rfl, Nat.le_of_ble_eq_true rfl⟩ rfl ?_
  refine zz_E.n 1 rfl rfl rfl ?_
  refine zz_E.jf 4 rfl (by rfl) (by decide) rfl ?_
  refine zz_E.n 5 rfl rfl rfl ?_
  refine zz_E.n 7 rfl rfl rfl ?_
  refine zz_E.kf 10 rfl (by rfl) (by decide) rfl ?_
  refine zz_E.n 11 rfl rfl rfl ?_
  refine zz_E.n 15 rfl rfl rfl ?_
  refine zz_E.ret rfl rfl rfl ?_
  refine zz_E.jt 9 rfl (by rfl) (by decide) rfl ?_
  refine zz_E.n 10 rfl rfl rfl ?_
  refine zz_E.n 11 rfl rfl rfl ?_
  refine zz_E.n 12 rfl rfl rfl ?_
  refine zz_E.n 15 rfl rfl rfl ?_
  refine zz_E.n 16 rfl rfl rfl ?_
  refine zz_E.t (.int 9640) 17 rfl rfl rfl ?_
  refine zz_E.cl (M' := zm_75) 20 rfl rfl (by decide) rfl rfl ⟨rfl, Nat.le_of_ble_eq_true rfl⟩ rfl ?_
  refine zz_E.n 1 rfl rfl rfl ?_
  refine zz_E.n 2 rfl rfl rfl ?_
  refine zz_E.kt 13 rfl (by rfl) (by decide) rfl ?_
  refine zz_E.n 14 rfl rfl rfl ?_
  refine zz_E.jf 17 rfl (by rfl) (by decide) rfl ?_
  refine zz_E.n 18 rfl rfl rfl ?_
  refine zz_E.n 21 rfl rfl rfl ?_
  refine zz_E.n 22 rfl rfl rfl ?_
  refine zz_E.n 23 rfl rfl rfl ?_
  refine zz_E.n 24 rfl rfl rfl ?_
  refine zz_E.n 25 rfl rfl rfl ?_
  refine zz_E.n 28 rfl rfl rfl ?_
  refine zz_E.n 29 rfl rfl rfl ?_
  refine zz_E.n 30 rfl rfl rfl ?_
  refine zz_E.t (.int 9641) 31 rfl rfl rfl ?_
  refine zz_E.n 32 rfl rfl rfl ?_
  refine zz_E.n 33 rfl rfl rfl ?_
  refine zz_E.ret rfl rfl rfl ?_
  refine zz_E.n 21 rfl rfl rfl ?_
  refine zz_E.ret rfl rfl rfl ?_
  refine zz_E.kt 652 rfl (by rfl) (by decide) rfl ?_
  refine zz_E.n 655 rfl rfl rfl ?_
  refine zz_E.n 18 rfl rfl rfl ?_
  refine zz_E.n 19 rfl rfl rfl ?_
  refine zz_E.n 20 rfl rfl rfl ?_
  refine zz_E.n 21 rfl rfl rfl ?_
  refine zz_E.n 23 rfl rfl rfl ?_
  refine zz_E.t (.int 0) 24 rfl rfl rfl ?_
  refine zz_E.kt 658 rfl (by rfl) (by decide) rfl ?_
  refine zz_E.n 659 rfl rfl rfl ?_
  refine zz_E.ret rfl rfl rfl ?_
  refine ⟨rfl, by simp only [List.length_set]; exact zv_lnh, zv_sl0 ?_⟩
  repeat (first | refine zv_slA ?_ (by decide) | refine zv_slO ?_ (by decide))
  exact Nat.le_trans (Nat.add_le_add_right zv_slh _) (by decide)
set_option maxRecDepth 100000 in
set_option maxHeartbeats 8000000 in
theorem zv_k9_5 (xs : Nat → Int32) : zz_E zp_P zt_tf zt_fd (zt_X 6 (fun q => if q = 1 then nI 5 else xs q)) 1000 zm_law 33 zv_L [.int (nI 9)] zv_h zv_Q := by
  refine zz_E.n 391 rfl rfl rfl ?_
  refine zz_E.n 392 rfl rfl rfl ?_
  refine zz_E.n 393 rfl rfl rfl ?_
  refine zz_E.n 394 rfl rfl rfl ?_
  refine zz_E.n 395 rfl rfl rfl ?_
  refine zz_E.t (.int 1) 396 rfl rfl rfl ?_
  refine zz_E.t (.int 5) 397 rfl rfl rfl ?_
  refine zz_E.n 398 rfl rfl rfl ?_
  refine zz_E.n 399 rfl rfl rfl ?_
  refine zz_E.n 400 rfl rfl rfl ?_
  refine zz_E.t (.int 2) 401 rfl rfl rfl ?_
  refine zz_E.n 402 rfl rfl rfl ?_
  refine zz_E.cl (M' := zm_11) 405 rfl rfl (by decide) rfl rfl ⟨rfl, Nat.le_of_ble_eq_true rfl⟩ rfl ?_
  refine zz_E.n 1 rfl rfl rfl ?_
  refine zz_E.cl (M' := zm_21) 4 rfl rfl (by decide) rfl rfl ⟨rfl, Nat.le_of_ble_eq_true rfl⟩ rfl ?_
  refine zz_E.n 1 rfl rfl rfl ?_
  refine zz_E.jf 4 rfl (by rfl) (by decide) rfl ?_
  refine zz_E.n 5 rfl rfl rfl ?_
  refine zz_E.n 7 rfl rfl rfl ?_
  refine zz_E.kf 10 rfl (by rfl) (by decide) rfl ?_
  refine zz_E.n 11 rfl rfl rfl ?_
  refine zz_E.n 15 rfl rfl rfl ?_
  refine zz_E.ret rfl rfl rfl ?_
  refine zz_E.jt 9 rfl (by rfl) (by decide) rfl ?_
  refine zz_E.n 10 rfl rfl rfl ?_
  refine zz_E.n 13 rfl rfl rfl ?_
  refine zz_E.n 14 rfl rfl rfl ?_
  refine zz_E.n 15 rfl rfl rfl ?_
  refine zz_E.cl (M' := zm_24) 18 rfl rfl (by decide) rfl rfl ⟨rfl, Nat.le_of_ble_eq_true rfl⟩ rfl ?_
  refine zz_E.n 1 rfl rfl rfl ?_
  refine zz_E.n 4 rfl rfl rfl ?_
  refine zz_E.n 5 rfl rfl rfl ?_
  refine zz_E.n 6 rfl rfl rfl ?_
  refine zz_E.n 7 rfl rfl rfl ?_
  refine zz_E.n 8 rfl rfl rfl ?_
  refine zz_E.n 9 rfl rfl rfl ?_
  refine zz_E.n 10 rfl rfl rfl ?_
  refine zz_E.cl (M' := zm_25) 13 rfl rfl (by decide) rfl rfl ⟨rfl, Nat.le_of_ble_eq_true rfl⟩ rfl ?_
  refine zz_E.n 1 rfl rfl rfl ?_
  refine zz_E.n 4 rfl rfl rfl ?_
  refine zz_E.n 5 rfl rfl rfl ?_
  refine zz_E.t (.int 0) 6 rfl rfl rfl ?_
  refine zz_E.n 7 rfl rfl rfl ?_
  refine zz_E.n 8 rfl rfl rfl ?_
  refine zz_E.n 9 rfl rfl rfl ?_
  refine zz_E.n 12 rfl rfl rfl ?_
  refine zz_E.n 13 rfl rfl rfl ?_
  refine zz_E.n 14 rfl rfl rfl ?_
  refine zz_E.n 15 rfl rfl rfl ?_
  refine zz_E.kt 38 rfl (by rfl) (by decide) rfl ?_
  refine zz_E.n 39 rfl rfl rfl ?_
  refine zz_E.n 42 rfl rfl rfl ?_
  refine zz_E.n 43 rfl rfl rfl ?_
  refine zz_E.n 44 rfl rfl rfl ?_
  refine zz_E.n 45 rfl rfl rfl ?_
  refine zz_E.n 46 rfl rfl rfl ?_
  refine zz_E.n 47 rfl rfl rfl ?_
  refine zz_E.n 48 rfl rfl rfl ?_
  refine zz_E.n 51 rfl rfl rfl ?_
  refine zz_E.n 52 rfl rfl rfl ?_
  refine zz_E.n 53 rfl rfl rfl ?_
  refine zz_E.n 54 rfl rfl rfl ?_
  refine zz_E.t (.int 1) 55 rfl rfl rfl ?_
  refine zz_E.n 56 rfl rfl rfl ?_
  refine zz_E.ret rfl rfl rfl ?_
  refine zz_E.n 14 rfl rfl rfl ?_
  refine zz_E.n 15 rfl rfl rfl ?_
  refine zz_E.n 16 rfl rfl rfl ?_
  refine zz_E.cl (M' := zm_25) 19 rfl rfl (by decide) rfl rfl ⟨rfl, Nat.le_of_ble_eq_true rfl⟩ rfl ?_
  refine zz_E.n 1 rfl rfl rfl ?_
  refine zz_E.n 4 rfl rfl rfl ?_
  refine zz_E.n 5 rfl rfl rfl ?_
  refine zz_E.t (.int 1) 6 rfl rfl rfl ?_
  refine zz_E.n 7 rfl rfl rfl ?_
  refine zz_E.n 8 rfl rfl rfl ?_
  refine zz_E.n 9 rfl rfl rfl ?_
  refine zz_E.n 12 rfl rfl rfl ?_
  refine zz_E.n 13 rfl rfl rfl ?_
  refine zz_E.n 14 rfl rfl rfl ?_
  refine zz_E.n 15 rfl rfl rfl ?_
  refine zz_E.kt 38 rfl (by rfl) (by decide) rfl ?_
  refine zz_E.n 39 rfl rfl rfl ?_
  refine zz_E.n 42 rfl rfl rfl ?_
  refine zz_E.n 43 rfl rfl rfl ?_
  refine zz_E.n 44 rfl rfl rfl ?_
  refine zz_E.n 45 rfl rfl rfl ?_
  refine zz_E.n 46 rfl rfl rfl ?_
  refine zz_E.n 47 rfl rfl rfl ?_
  refine zz_E.n 48 rfl rfl rfl ?_
  refine zz_E.n 51 rfl rfl rfl ?_
  refine zz_E.n 52 rfl rfl rfl ?_
  refine zz_E.n 53 rfl rfl rfl ?_
  refine zz_E.n 54 rfl rfl rfl ?_
  refine zz_E.t (.int 2) 55 rfl rfl rfl ?_
  refine zz_E.n 56 rfl rfl rfl ?_
  refine zz_E.ret rfl rfl rfl ?_
  refine zz_E.ret rfl rfl rfl ?_
  refine zz_E.n 19 rfl rfl rfl ?_
  refine zz_E.ret rfl rfl rfl ?_
  refine zz_E.n 406 rfl rfl rfl ?_
  refine zz_E.n 407 rfl rfl rfl ?_
  refine zz_E.n 408 rfl rfl rfl ?_
  refine zz_E.n 409 rfl rfl rfl ?_
  refine zz_E.t (.int 1) 410 rfl rfl rfl ?_
  refine zz_E.t (.int 5) 411 rfl rfl rfl ?_
  refine zz_E.n 412 rfl rfl rfl ?_
  refine zz_E.n 413 rfl rfl rfl ?_
  refine zz_E.n 414 rfl rfl rfl ?_
  refine zz_E.t (.int 2) 415 rfl rfl rfl ?_
  refine zz_E.n 416 rfl rfl rfl ?_
  refine zz_E.cl (M' := zm_74) 419 rfl rfl (by decide) rfl rfl ⟨rfl, Nat.le_of_ble_eq_true rfl⟩ rfl ?_
  refine zz_E.n 1 rfl rfl rfl ?_
  refine zz_E.cl (M' := zm_73) 4 rfl rfl (by decide) rfl rfl ⟨rfl, Nat.le_of_ble_eq_true rfl⟩ rfl ?_
  refine zz_E.n 1 rfl rfl rfl ?_
  refine zz_E.jf 4 rfl (by rfl) (by decide) rfl ?_
  refine zz_E.n 5 rfl rfl rfl ?_
  refine zz_E.n 7 rfl rfl rfl ?_
  refine zz_E.kf 10 rfl (by rfl) (by decide) rfl ?_
  refine zz_E.n 11 rfl rfl rfl ?_
  refine zz_E.n 15 rfl rfl rfl ?_
  refine zz_E.ret rfl rfl rfl ?_
  refine zz_E.jt 9 rfl (by rfl) (by decide) rfl ?_
  refine zz_E.n 10 rfl rfl rfl ?_
  refine zz_E.n 11 rfl rfl rfl ?_
  refine zz_E.n 12 rfl rfl rfl ?_
  refine zz_E.n 15 rfl rfl rfl ?_
  refine zz_E.n 16 rfl rfl rfl ?_
  refine zz_E.t (.int 12050) 17 rfl rfl rfl ?_
  refine zz_E.cl (M' := zm_75) 20 rfl rfl (by decide) rfl rfl ⟨rfl, Nat.le_of_ble_eq_true rfl⟩ rfl ?_
  refine zz_E.n 1 rfl rfl rfl ?_
  refine zz_E.n 2 rfl rfl rfl ?_
  refine zz_E.kt 13 rfl (by rfl) (by decide) rfl ?_
  refine zz_E.n 14 rfl rfl rfl ?_
  refine zz_E.jf 17 rfl (by rfl) (by decide) rfl ?_
  refine zz_E.n 18 rfl rfl rfl ?_
  refine zz_E.n 21 rfl rfl rfl ?_
  refine zz_E.n 22 rfl rfl rfl ?_
  refine zz_E.n 23 rfl rfl rfl ?_
  refine zz_E.n 24 rfl rfl rfl ?_
  refine zz_E.n 25 rfl rfl rfl ?_
  refine zz_E.n 28 rfl rfl rfl ?_
  refine zz_E.n 29 rfl rfl rfl ?_
  refine zz_E.n 30 rfl rfl rfl ?_
  refine zz_E.t (.int 12051) 31 rfl rfl rfl ?_
  refine zz_E.n 32 rfl rfl rfl ?_
  refine zz_E.n 33 rfl rfl rfl ?_
  refine zz_E.ret rfl rfl rfl ?_
  refine zz_E.n 21 rfl rfl rfl ?_
  refine zz_E.ret rfl rfl rfl ?_
  refine zz_E.kt 652 rfl (by rfl) (by decide) rfl ?_
  refine zz_E.n 655 rfl rfl rfl ?_
  refine zz_E.n 18 rfl rfl rfl ?_
  refine zz_E.n 19 rfl rfl rfl ?_
  refine zz_E.n 20 rfl rfl rfl ?_
  refine zz_E.n 21 rfl rfl rfl ?_
  refine zz_E.n 23 rfl rfl rfl ?_
  refine zz_E.t (.int 0) 24 rfl rfl rfl ?_
  refine zz_E.kt 658 rfl (by rfl) (by decide) rfl ?_
  refine zz_E.n 659 rfl rfl rfl ?_
  refine zz_E.ret rfl rfl rfl ?_
  refine ⟨rfl, by simp only [List.length_set]; exact zv_lnh, zv_sl0 ?_⟩
  repeat (first | refine zv_slA ?_ (by decide) | refine zv_slO ?_ (by decide))
  exact Nat.le_trans (Nat.add_le_add_right zv_slh _) (by decide)
set_option maxRecDepth 100000 in
set_option maxHeartbeats 8000000 in
theorem zv_k9_6 (xs : Nat → Int32) : zz_E zp_P zt_tf zt_fd (zt_X 6 (fun q => if q = 1 then nI 6 else xs q)) 1000 zm_law 33 zv_L [.int (nI 9)] zv_h zv_Q := by
  refine zz_E.n 391 rfl rfl rfl ?_
  refine zz_E.n 392 rfl rfl rfl ?_
  refine zz_E.n 393 rfl rfl rfl ?_
  refine zz_E.n 394 rfl rfl rfl ?_
  refine zz_E.n 395 rfl rfl rfl ?_
  refine zz_E.t (.int 1) 396 rfl rfl rfl ?_
  refine zz_E.t (.int 6) 397 rfl rfl rfl ?_
  refine zz_E.n 398 rfl rfl rfl ?_
  refine zz_E.n 399 rfl rfl rfl ?_
  refine zz_E.n 400 rfl rfl rfl ?_
  refine zz_E.t (.int 2) 401 rfl rfl rfl ?_
  refine zz_E.n 402 rfl rfl rfl ?_
  refine zz_E.cl (M' := zm_11) 405 rfl rfl (by decide) rfl rfl ⟨rfl, Nat.le_of_ble_eq_true rfl⟩ rfl ?_
  refine zz_E.n 1 rfl rfl rfl ?_
  refine zz_E.cl (M' := zm_21) 4 rfl rfl (by decide) rfl rfl ⟨rfl, Nat.le_of_ble_eq_true rfl⟩ rfl ?_
  refine zz_E.n 1 rfl rfl rfl ?_
  refine zz_E.jf 4 rfl (by rfl) (by decide) rfl ?_
  refine zz_E.n 5 rfl rfl rfl ?_
  refine zz_E.n 7 rfl rfl rfl ?_
  refine zz_E.kf 10 rfl (by rfl) (by decide) rfl ?_
  refine zz_E.n 11 rfl rfl rfl ?_
  refine zz_E.n 15 rfl rfl rfl ?_
  refine zz_E.ret rfl rfl rfl ?_
  refine zz_E.jt 9 rfl (by rfl) (by decide) rfl ?_
  refine zz_E.n 10 rfl rfl rfl ?_
  refine zz_E.n 13 rfl rfl rfl ?_
  refine zz_E.n 14 rfl rfl rfl ?_
  refine zz_E.n 15 rfl rfl rfl ?_
  refine zz_E.cl (M' := zm_24) 18 rfl rfl (by decide) rfl rfl ⟨rfl, Nat.le_of_ble_eq_true rfl⟩ rfl ?_
  refine zz_E.n 1 rfl rfl rfl ?_
  refine zz_E.n 4 rfl rfl rfl ?_
  refine zz_E.n 5 rfl rfl rfl ?_
  refine zz_E.n 6 rfl rfl rfl ?_
  refine zz_E.n 7 rfl rfl rfl ?_
  refine zz_E.n 8 rfl rfl rfl ?_
  refine zz_E.n 9 rfl rfl rfl ?_
  refine zz_E.n 10 rfl rfl rfl ?_
  refine zz_E.cl (M' := zm_25) 13 rfl rfl (by decide) rfl rfl ⟨rfl, Nat.le_of_ble_eq_true rfl⟩ rfl ?_
  refine zz_E.n 1 rfl rfl rfl ?_
  refine zz_E.n 4 rfl rfl rfl ?_
  refine zz_E.n 5 rfl rfl rfl ?_
  refine zz_E.t (.int 0) 6 rfl rfl rfl ?_
  refine zz_E.n 7 rfl rfl rfl ?_
  refine zz_E.n 8 rfl rfl rfl ?_
  refine zz_E.n 9 rfl rfl rfl ?_
  refine zz_E.n 12 rfl rfl rfl ?_
  refine zz_E.n 13 rfl rfl rfl ?_
  refine zz_E.n 14 rfl rfl rfl ?_
  refine zz_E.n 15 rfl rfl rfl ?_
  refine zz_E.kt 38 rfl (by rfl) (by decide) rfl ?_
  refine zz_E.n 39 rfl rfl rfl ?_
  refine zz_E.n 42 rfl rfl rfl ?_
  refine zz_E.n 43 rfl rfl rfl ?_
  refine zz_E.n 44 rfl rfl rfl ?_
  refine zz_E.n 45 rfl rfl rfl ?_
  refine zz_E.n 46 rfl rfl rfl ?_
  refine zz_E.n 47 rfl rfl rfl ?_
  refine zz_E.n 48 rfl rfl rfl ?_
  refine zz_E.n 51 rfl rfl rfl ?_
  refine zz_E.n 52 rfl rfl rfl ?_
  refine zz_E.n 53 rfl rfl rfl ?_
  refine zz_E.n 54 rfl rfl rfl ?_
  refine zz_E.t (.int 1) 55 rfl rfl rfl ?_
  refine zz_E.n 56 rfl rfl rfl ?_
  refine zz_E.ret rfl rfl rfl ?_
  refine zz_E.n 14 rfl rfl rfl ?_
  refine zz_E.n 15 rfl rfl rfl ?_
  refine zz_E.n 16 rfl rfl rfl ?_
  refine zz_E.cl (M' := zm_25) 19 rfl rfl (by decide) rfl rfl ⟨rfl, Nat.le_of_ble_eq_true rfl⟩ rfl ?_
  refine zz_E.n 1 rfl rfl rfl ?_
  refine zz_E.n 4 rfl rfl rfl ?_
  refine zz_E.n 5 rfl rfl rfl ?_
  refine zz_E.t (.int 1) 6 rfl rfl rfl ?_
  refine zz_E.n 7 rfl rfl rfl ?_
  refine zz_E.n 8 rfl rfl rfl ?_
  refine zz_E.n 9 rfl rfl rfl ?_
  refine zz_E.n 12 rfl rfl rfl ?_
  refine zz_E.n 13 rfl rfl rfl ?_
  refine zz_E.n 14 rfl rfl rfl ?_
  refine zz_E.n 15 rfl rfl rfl ?_
  refine zz_E.kt 38 rfl (by rfl) (by decide) rfl ?_
  refine zz_E.n 39 rfl rfl rfl ?_
  refine zz_E.n 42 rfl rfl rfl ?_
  refine zz_E.n 43 rfl rfl rfl ?_
  refine zz_E.n 44 rfl rfl rfl ?_
  refine zz_E.n 45 rfl rfl rfl ?_
  refine zz_E.n 46 rfl rfl rfl ?_
  refine zz_E.n 47 rfl rfl rfl ?_
  refine zz_E.n 48 rfl rfl rfl ?_
  refine zz_E.n 51 rfl rfl rfl ?_
  refine zz_E.n 52 rfl rfl rfl ?_
  refine zz_E.n 53 rfl rfl rfl ?_
  refine zz_E.n 54 rfl rfl rfl ?_
  refine zz_E.t (.int 2) 55 rfl rfl rfl ?_
  refine zz_E.n 56 rfl rfl rfl ?_
  refine zz_E.ret rfl rfl rfl ?_
  refine zz_E.ret rfl rfl rfl ?_
  refine zz_E.n 19 rfl rfl rfl ?_
  refine zz_E.ret rfl rfl rfl ?_
  refine zz_E.n 406 rfl rfl rfl ?_
  refine zz_E.n 407 rfl rfl rfl ?_
  refine zz_E.n 408 rfl rfl rfl ?_
  refine zz_E.n 409 rfl rfl rfl ?_
  refine zz_E.t (.int 1) 410 rfl rfl rfl ?_
  refine zz_E.t (.int 6) 411 rfl rfl rfl ?_
  refine zz_E.n 412 rfl rfl rfl ?_
  refine zz_E.n 413 rfl rfl rfl ?_
  refine zz_E.n 414 rfl rfl rfl ?_
  refine zz_E.t (.int 2) 415 rfl rfl rfl ?_
  refine zz_E.n 416 rfl rfl rfl ?_
  refine zz_E.cl (M' := zm_74) 419 rfl rfl (by decide) rfl rfl ⟨rfl, Nat.le_of_ble_eq_true rfl⟩ rfl ?_
  refine zz_E.n 1 rfl rfl rfl ?_
  refine zz_E.cl (M' := zm_73) 4 rfl rfl (by decide) rfl rfl ⟨rfl, Nat.le_of_ble_eq_true rfl⟩ rfl ?_
  refine zz_E.n 1 rfl rfl rfl ?_
  refine zz_E.jf 4 rfl (by rfl) (by decide) rfl ?_
  refine zz_E.n 5 rfl rfl rfl ?_
  refine zz_E.n 7 rfl rfl rfl ?_
  refine zz_E.kf 10 rfl (by rfl) (by decide) rfl ?_
  refine zz_E.n 11 rfl rfl rfl ?_
  refine zz_E.n 15 rfl rfl rfl ?_
  refine zz_E.ret rfl rfl rfl ?_
  refine zz_E.jt 9 rfl (by rfl) (by decide) rfl ?_
  refine zz_E.n 10 rfl rfl rfl ?_
  refine zz_E.n 11 rfl rfl rfl ?_
  refine zz_E.n 12 rfl rfl rfl ?_
  refine zz_E.n 15 rfl rfl rfl ?_
  refine zz_E.n 16 rfl rfl rfl ?_
  refine zz_E.t (.int 14460) 17 rfl rfl rfl ?_
  refine zz_E.cl (M' := zm_75) 20 rfl rfl (by decide) rfl rfl ⟨rfl, Nat.le_of_ble_eq_true rfl⟩ rfl ?_
  refine zz_E.n 1 rfl rfl rfl ?_
  refine zz_E.n 2 rfl rfl rfl ?_
  refine zz_E.kt 13 rfl (by rfl) (by decide) rfl ?_
  refine zz_E.n 14 rfl rfl rfl ?_
  refine zz_E.jf 17 rfl (by rfl) (by decide) rfl ?_
  refine zz_E.n 18 rfl rfl rfl ?_
  refine zz_E.n 21 rfl rfl rfl ?_
  refine zz_E.n 22 rfl rfl rfl ?_
  refine zz_E.n 23 rfl rfl rfl ?_
  refine zz_E.n 24 rfl rfl rfl ?_
  refine zz_E.n 25 rfl rfl rfl ?_
  refine zz_E.n 28 rfl rfl rfl ?_
  refine zz_E.n 29 rfl rfl rfl ?_
  refine zz_E.n 30 rfl rfl rfl ?_
  refine zz_E.t (.int 14461) 31 rfl rfl rfl ?_
  refine zz_E.n 32 rfl rfl rfl ?_
  refine zz_E.n 33 rfl rfl rfl ?_
  refine zz_E.ret rfl rfl rfl ?_
  refine zz_E.n 21 rfl rfl rfl ?_
  refine zz_E.ret rfl rfl rfl ?_
  refine zz_E.kt 652 rfl (by rfl) (by decide) rfl ?_
  refine zz_E.n 655 rfl rfl rfl ?_
  refine zz_E.n 18 rfl rfl rfl ?_
  refine zz_E.n 19 rfl rfl rfl ?_
  refine zz_E.n 20 rfl rfl rfl ?_
  refine zz_E.n 21 rfl rfl rfl ?_
  refine zz_E.n 23 rfl rfl rfl ?_
  refine zz_E.t (.int 0) 24 rfl rfl rfl ?_
  refine zz_E.kt 658 rfl (by rfl) (by decide) rfl ?_
  refine zz_E.n 659 rfl rfl rfl ?_
  refine zz_E.ret rfl rfl rfl ?_
  refine ⟨rfl, by simp only [List.length_set]; exact zv_lnh, zv_sl0 ?_⟩
  repeat (first | refine zv_slA ?_ (by decide) | refine zv_slO ?_ (by decide))
  exact Nat.le_trans (Nat.add_le_add_right zv_slh _) (by decide)
set_option maxRecDepth 100000 in
set_option maxHeartbeats 8000000 in
theorem zv_k9_7 (xs : Nat → Int32) : zz_E zp_P zt_tf zt_fd (zt_X 6 (fun q => if q = 1 then nI 7 else xs q)) 1000 zm_law 33 zv_L [.int (nI 9)] zv_h zv_Q := by
  refine zz_E.n 391 rfl rfl rfl ?_
  refine zz_E.n 392 rfl rfl rfl ?_
  refine zz_E.n 393 rfl rfl rfl ?_
  refine zz_E.n 394 rfl rfl rfl ?_
  refine zz_E.n 395 rfl rfl rfl ?_
  refine zz_E.t (.int 1) 396 rfl rfl rfl ?_
  refine zz_E.t (.int 7) 397 rfl rfl rfl ?_
  refine zz_E.n 398 rfl rfl rfl ?_
  refine zz_E.n 399 rfl rfl rfl ?_
  refine zz_E.n 400 rfl rfl rfl ?_
  refine zz_E.t (.int 2) 401 rfl rfl rfl ?_
  refine zz_E.n 402 rfl rfl rfl ?_
  refine zz_E.cl (M' := zm_11) 405 rfl rfl (by decide) rfl rfl ⟨rfl, Nat.le_of_ble_eq_true rfl⟩ rfl ?_
  refine zz_E.n 1 rfl rfl rfl ?_
  refine zz_E.cl (M' := zm_21) 4 rfl rfl (by decide) rfl rfl ⟨rfl, Nat.le_of_ble_eq_true rfl⟩ rfl ?_
  refine zz_E.n 1 rfl rfl rfl ?_
  refine zz_E.jf 4 rfl (by rfl) (by decide) rfl ?_
  refine zz_E.n 5 rfl rfl rfl ?_
  refine zz_E.n 7 rfl rfl rfl ?_
  refine zz_E.kf 10 rfl (by rfl) (by decide) rfl ?_
  refine zz_E.n 11 rfl rfl rfl ?_
  refine zz_E.n 15 rfl rfl rfl ?_
  refine zz_E.ret rfl rfl rfl ?_
  refine zz_E.jt 9 rfl (by rfl) (by decide) rfl ?_
  refine zz_E.n 10 rfl rfl rfl ?_
  refine zz_E.n 13 rfl rfl rfl ?_
  refine zz_E.n 14 rfl rfl rfl ?_
  refine zz_E.n 15 rfl rfl rfl ?_
  refine zz_E.cl (M' := zm_24) 18 rfl rfl (by decide) rfl rfl ⟨rfl, Nat.le_of_ble_eq_true rfl⟩ rfl ?_
  refine zz_E.n 1 rfl rfl rfl ?_
  refine zz_E.n 4 rfl rfl rfl ?_
  refine zz_E.n 5 rfl rfl rfl ?_
  refine zz_E.n 6 rfl rfl rfl ?_
  refine zz_E.n 7 rfl rfl rfl ?_
  refine zz_E.n 8 rfl rfl rfl ?_
  refine zz_E.n 9 rfl rfl rfl ?_
  refine zz_E.n 10 rfl rfl rfl ?_
  refine zz_E.cl (M' := zm_25) 13 rfl rfl (by decide) rfl rfl ⟨rfl, Nat.le_of_ble_eq_true rfl⟩ rfl ?_
  refine zz_E.n 1 rfl rfl rfl ?_
  refine zz_E.n 4 rfl rfl rfl ?_
  refine zz_E.n 5 rfl rfl rfl ?_
  refine zz_E.t (.int 0) 6 rfl rfl rfl ?_
  refine zz_E.n 7 rfl rfl rfl ?_
  refine zz_E.n 8 rfl rfl rfl ?_
  refine zz_E.n 9 rfl rfl rfl ?_
  refine zz_E.n 12 rfl rfl rfl ?_
  refine zz_E.n 13 rfl rfl rfl ?_
  refine zz_E.n 14 rfl rfl rfl ?_
  refine zz_E.n 15 rfl rfl rfl ?_
  refine zz_E.kt 38 rfl (by rfl) (by decide) rfl ?_
  refine zz_E.n 39 rfl rfl rfl ?_
  refine zz_E.n 42 rfl rfl rfl ?_
  refine zz_E.n 43 rfl rfl rfl ?_
  refine zz_E.n 44 rfl rfl rfl ?_
  refine zz_E.n 45 rfl rfl rfl ?_
  refine zz_E.n 46 rfl rfl rfl ?_
  refine zz_E.n 47 rfl rfl rfl ?_
  refine zz_E.n 48 rfl rfl rfl ?_
  refine zz_E.n 51 rfl rfl rfl ?_
  refine zz_E.n 52 rfl rfl rfl ?_
  refine zz_E.n 53 rfl rfl rfl ?_
  refine zz_E.n 54 rfl rfl rfl ?_
  refine zz_E.t (.int 1) 55 rfl rfl rfl ?_
  refine zz_E.n 56 rfl rfl rfl ?_
  refine zz_E.ret rfl rfl rfl ?_
  refine zz_E.n 14 rfl rfl rfl ?_
  refine zz_E.n 15 rfl rfl rfl ?_
  refine zz_E.n 16 rfl rfl rfl ?_
  refine zz_E.cl (M' := zm_25) 19 rfl rfl (by decide) rfl rfl ⟨rfl, Nat.le_of_ble_eq_true rfl⟩ rfl ?_
  refine zz_E.n 1 rfl rfl rfl ?_
  refine zz_E.n 4 rfl rfl rfl ?_
  refine zz_E.n 5 rfl rfl rfl ?_
  refine zz_E.t (.int 1) 6 rfl rfl rfl ?_
  refine zz_E.n 7 rfl rfl rfl ?_
  refine zz_E.n 8 rfl rfl rfl ?_
  refine zz_E.n 9 rfl rfl rfl ?_
  refine zz_E.n 12 rfl rfl rfl ?_
  refine zz_E.n 13 rfl rfl rfl ?_
  refine zz_E.n 14 rfl rfl rfl ?_
  refine zz_E.n 15 rfl rfl rfl ?_
  refine zz_E.kt 38 rfl (by rfl) (by decide) rfl ?_
  refine zz_E.n 39 rfl rfl rfl ?_
  refine zz_E.n 42 rfl rfl rfl ?_
  refine zz_E.n 43 rfl rfl rfl ?_
  refine zz_E.n 44 rfl rfl rfl ?_
  refine zz_E.n 45 rfl rfl rfl ?_
  refine zz_E.n 46 rfl rfl rfl ?_
  refine zz_E.n 47 rfl rfl rfl ?_
  refine zz_E.n 48 rfl rfl rfl ?_
  refine zz_E.n 51 rfl rfl rfl ?_
  refine zz_E.n 52 rfl rfl rfl ?_
  refine zz_E.n 53 rfl rfl rfl ?_
  refine zz_E.n 54 rfl rfl rfl ?_
  refine zz_E.t (.int 2) 55 rfl rfl rfl ?_
  refine zz_E.n 56 rfl rfl rfl ?_
  refine zz_E.ret rfl rfl rfl ?_
  refine zz_E.ret rfl rfl rfl ?_
  refine zz_E.n 19 rfl rfl rfl ?_
  refine zz_E.ret rfl rfl rfl ?_
  refine zz_E.n 406 rfl rfl rfl ?_
  refine zz_E.n 407 rfl rfl rfl ?_
  refine zz_E.n 408 rfl rfl rfl ?_
  refine zz_E.n 409 rfl rfl rfl ?_
  refine zz_E.t (.int 1) 410 rfl rfl rfl ?_
  refine zz_E.t (.int 7) 411 rfl rfl rfl ?_
  refine zz_E.n 412 rfl rfl rfl ?_
  refine zz_E.n 413 rfl rfl rfl ?_
  refine zz_E.n 414 rfl rfl rfl ?_
  refine zz_E.t (.int 2) 415 rfl rfl rfl ?_
  refine zz_E.n 416 rfl rfl rfl ?_
  refine zz_E.cl (M' := zm_74) 419 rfl rfl (by decide) rfl rfl ⟨rfl, Nat.le_of_ble_eq_true rfl⟩ rfl ?_
  refine zz_E.n 1 rfl rfl rfl ?_
  refine zz_E.cl (M' := zm_73) 4 rfl rfl (by decide) rfl rfl ⟨rfl, Nat.le_of_ble_eq_true rfl⟩ rfl ?_
  refine zz_E.n 1 rfl rfl rfl ?_
  refine zz_E.jf 4 rfl (by rfl) (by decide) rfl ?_
  refine zz_E.n 5 rfl rfl rfl ?_
  refine zz_E.n 7 rfl rfl rfl ?_
  refine zz_E.kf 10 rfl (by rfl) (by decide) rfl ?_
  refine zz_E.n 11 rfl rfl rfl ?_
  refine zz_E.n 15 rfl rfl rfl ?_
  refine zz_E.ret rfl rfl rfl ?_
  refine zz_E.jt 9 rfl (by rfl) (by decide) rfl ?_
  refine zz_E.n 10 rfl rfl rfl ?_
  refine zz_E.n 11 rfl rfl rfl ?_
  refine zz_E.n 12 rfl rfl rfl ?_
  refine zz_E.n 15 rfl rfl rfl ?_
  refine zz_E.n 16 rfl rfl rfl ?_
  refine zz_E.t (.int 16870) 17 rfl rfl rfl ?_
  refine zz_E.cl (M' := zm_75) 20 rfl rfl (by decide) rfl rfl ⟨rfl, Nat.le_of_ble_eq_true rfl⟩ rfl ?_
  refine zz_E.n 1 rfl rfl rfl ?_
  refine zz_E.n 2 rfl rfl rfl ?_
  refine zz_E.kt 13 rfl (by rfl) (by decide) rfl ?_
  refine zz_E.n 14 rfl rfl rfl ?_
  refine zz_E.jf 17 rfl (by rfl) (by decide) rfl ?_
  refine zz_E.n 18 rfl rfl rfl ?_
  refine zz_E.n 21 rfl rfl rfl ?_
  refine zz_E.n 22 rfl rfl rfl ?_
  refine zz_E.n 23 rfl rfl rfl ?_
  refine zz_E.n 24 rfl rfl rfl ?_
  refine zz_E.n 25 rfl rfl rfl ?_
  refine zz_E.n 28 rfl rfl rfl ?_
  refine zz_E.n 29 rfl rfl rfl ?_
  refine zz_E.n 30 rfl rfl rfl ?_
  refine zz_E.t (.int 16871) 31 rfl rfl rfl ?_
  refine zz_E.n 32 rfl rfl rfl ?_
  refine zz_E.n 33 rfl rfl rfl ?_
  refine zz_E.ret rfl rfl rfl ?_
  refine zz_E.n 21 rfl rfl rfl ?_
  refine zz_E.ret rfl rfl rfl ?_
  refine zz_E.kt 652 rfl (by rfl) (by decide) rfl ?_
  refine zz_E.n 655 rfl rfl rfl ?_
  refine zz_E.n 18 rfl rfl rfl ?_
  refine zz_E.n 19 rfl rfl rfl ?_
  refine zz_E.n 20 rfl rfl rfl ?_
  refine zz_E.n 21 rfl rfl rfl ?_
  refine zz_E.n 23 rfl rfl rfl ?_
  refine zz_E.t (.int 0) 24 rfl rfl rfl ?_
  refine zz_E.kt 658 rfl (by rfl) (by decide) rfl ?_
  refine zz_E.n 659 rfl rfl rfl ?_
  refine zz_E.ret rfl rfl rfl ?_
  refine ⟨rfl, by simp only [List.length_set]; exact zv_lnh, zv_sl0 ?_⟩
  repeat (first | refine zv_slA ?_ (by decide) | refine zv_slO ?_ (by decide))
  exact Nat.le_trans (Nat.add_le_add_right zv_slh _) (by decide)
set_option maxRecDepth 100000 in
set_option maxHeartbeats 8000000 in
theorem zv_k10_0 (xs : Nat → Int32) : zz_E zp_P zt_tf zt_fd (zt_X 6 (fun q => if q = 1 then nI 0 else xs q)) 1000 zm_law 33 zv_L [.int (nI 10)] zv_h zv_Q := by
  refine zz_E.n 424 rfl rfl rfl ?_
  refine zz_E.n 425 rfl rfl rfl ?_
  refine zz_E.n 426 rfl rfl rfl ?_
  refine zz_E.n 427 rfl rfl rfl ?_
  refine zz_E.n 428 rfl rfl rfl ?_
  refine zz_E.t (.int 1) 429 rfl rfl rfl ?_
  refine zz_E.t (.int 0) 430 rfl rfl rfl ?_
  refine zz_E.n 431 rfl rfl rfl ?_
  refine zz_E.n 432 rfl rfl rfl ?_
  refine zz_E.n 433 rfl rfl rfl ?_
  refine zz_E.t (.int 2) 434 rfl rfl rfl ?_
  refine zz_E.n 435 rfl rfl rfl ?_
  refine zz_E.cl (M' := zm_12) 438 rfl rfl (by decide) rfl rfl ⟨rfl, Nat.le_of_ble_eq_true rfl⟩ rfl ?_
  refine zz_E.n 1 rfl rfl rfl ?_
  refine zz_E.cl (M' := zm_21) 4 rfl rfl (by decide) rfl rfl ⟨rfl, Nat.le_of_ble_eq_true rfl⟩ rfl ?_
  refine zz_E.n 1 rfl rfl rfl ?_
  refine zz_E.jf 4 rfl (by rfl) (by decide) rfl ?_
  refine zz_E.n 5 rfl rfl rfl ?_
  refine zz_E.n 7 rfl rfl rfl ?_
  refine zz_E.kf 10 rfl (by rfl) (by decide) rfl ?_
  refine zz_E.n 11 rfl rfl rfl ?_
  refine zz_E.n 15 rfl rfl rfl ?_
  refine zz_E.ret rfl rfl rfl ?_
  refine zz_E.jf 7 rfl (by rfl) (by decide) rfl ?_
  refine zz_E.n 8 rfl rfl rfl ?_
  refine zz_E.n 11 rfl rfl rfl ?_
  refine zz_E.n 12 rfl rfl rfl ?_
  refine zz_E.n 13 rfl rfl rfl ?_
  refine zz_E.cl (M' := zm_26) 16 rfl rfl (by decide) rfl rfl ⟨rfl, Nat.le_of_ble_eq_true rfl⟩ rfl ?_
  refine zz_E.n 1 rfl rfl rfl ?_
  refine zz_E.n 2 rfl rfl rfl ?_
  refine zz_E.cl (M' := zm_23) 5 rfl rfl (by decide) rfl rfl ⟨rfl, Nat.le_of_ble_eq_true rfl⟩ rfl ?_
  refine zz_E.n 1 rfl rfl rfl ?_
  refine zz_E.n 4 rfl rfl rfl ?_
  refine zz_E.n 5 rfl rfl rfl ?_
  refine zz_E.t (.int 0) 6 rfl rfl rfl ?_
  refine zz_E.jf 9 rfl (by rfl) (by decide) rfl ?_
  refine zz_E.n 10 rfl rfl rfl ?_
  refine zz_E.n 21 rfl rfl rfl ?_
  refine zz_E.ret rfl rfl rfl ?_
  refine zz_E.n 6 rfl rfl rfl ?_
  refine zz_E.kf 9 rfl (by rfl) (by decide) rfl ?_
  refine zz_E.n 10 rfl rfl rfl ?_
  refine zz_E.n 13 rfl rfl rfl ?_
  refine zz_E.n 14 rfl rfl rfl ?_
  refine zz_E.n 15 rfl rfl rfl ?_
  refine zz_E.n 16 rfl rfl rfl ?_
  refine zz_E.n 17 rfl rfl rfl ?_
  refine zz_E.n 18 rfl rfl rfl ?_
  refine zz_E.n 19 rfl rfl rfl ?_
  refine zz_E.cl (M' := zm_25) 22 rfl rfl (by decide) rfl rfl ⟨rfl, Nat.le_of_ble_eq_true rfl⟩ rfl ?_
  refine zz_E.n 1 rfl rfl rfl ?_
  refine zz_E.n 4 rfl rfl rfl ?_
  refine zz_E.n 5 rfl rfl rfl ?_
  refine zz_E.t (.int 0) 6 rfl rfl rfl ?_
  refine zz_E.n 7 rfl rfl rfl ?_
  refine zz_E.n 8 rfl rfl rfl ?_
  refine zz_E.n 9 rfl rfl rfl ?_
  refine zz_E.n 12 rfl rfl rfl ?_
  refine zz_E.n 13 rfl rfl rfl ?_
  refine zz_E.n 14 rfl rfl rfl ?_
  refine zz_E.n 15 rfl rfl rfl ?_
  refine zz_E.kt 38 rfl (by rfl) (by decide) rfl ?_
  refine zz_E.n 39 rfl rfl rfl ?_
  refine zz_E.n 42 rfl rfl rfl ?_
  refine zz_E.n 43 rfl rfl rfl ?_
  refine zz_E.n 44 rfl rfl rfl ?_
  refine zz_E.n 45 rfl rfl rfl ?_
  refine zz_E.n 46 rfl rfl rfl ?_
  refine zz_E.n 47 rfl rfl rfl ?_
  refine zz_E.n 48 rfl rfl rfl ?_
  refine zz_E.n 51 rfl rfl rfl ?_
  refine zz_E.n 52 rfl rfl rfl ?_
  refine zz_E.n 53 rfl rfl rfl ?_
  refine zz_E.n 54 rfl rfl rfl ?_
  refine zz_E.t (.int 1) 55 rfl rfl rfl ?_
  refine zz_E.n 56 rfl rfl rfl ?_
  refine zz_E.ret rfl rfl rfl ?_
  refine zz_E.n 23 rfl rfl rfl ?_
  refine zz_E.n 24 rfl rfl rfl ?_
  refine zz_E.n 25 rfl rfl rfl ?_
  refine zz_E.cl (M' := zm_25) 28 rfl rfl (by decide) rfl rfl ⟨rfl, Nat.le_of_ble_eq_true rfl⟩ rfl ?_
  refine zz_E.n 1 rfl rfl rfl ?_
  refine zz_E.n 4 rfl rfl rfl ?_
  refine zz_E.n 5 rfl rfl rfl ?_
  refine zz_E.t (.int 1) 6 rfl rfl rfl ?_
  refine zz_E.n 7 rfl rfl rfl ?_
  refine zz_E.n 8 rfl rfl rfl ?_
  refine zz_E.n 9 rfl rfl rfl ?_
  refine zz_E.n 12 rfl rfl rfl ?_
  refine zz_E.n 13 rfl rfl rfl ?_
  refine zz_E.n 14 rfl rfl rfl ?_
  refine zz_E.n 15 rfl rfl rfl ?_
  refine zz_E.kt 38 rfl (by rfl) (by decide) rfl ?_
  refine zz_E.n 39 rfl rfl rfl ?_
  refine zz_E.n 42 rfl rfl rfl ?_
  refine zz_E.n 43 rfl rfl rfl ?_
  refine zz_E.n 44 rfl rfl rfl ?_
  refine zz_E.n 45 rfl rfl rfl ?_
  refine zz_E.n 46 rfl rfl rfl ?_
  refine zz_E.n 47 rfl rfl rfl ?_
  refine zz_E.n 48 rfl rfl rfl ?_
  refine zz_E.n 51 rfl rfl rfl ?_
  refine zz_E.n 52 rfl rfl rfl ?_
  refine zz_E.n 53 rfl rfl rfl ?_
  refine zz_E.n 54 rfl rfl rfl ?_
  refine zz_E.t (.int 2) 55 rfl rfl rfl ?_
  refine zz_E.n 56 rfl rfl rfl ?_
  refine zz_E.ret rfl rfl rfl ?_
  refine zz_E.n 29 rfl rfl rfl ?_
  refine zz_E.n 32 rfl rfl rfl ?_
  refine zz_E.n 33 rfl rfl rfl ?_
  refine zz_E.n 34 rfl rfl rfl ?_
  refine zz_E.n 35 rfl rfl rfl ?_
  refine zz_E.t (.int 0) 36 rfl rfl rfl ?_
  refine zz_E.n 38 rfl rfl rfl ?_
  refine zz_E.kt 43 rfl (by rfl) (by decide) rfl ?_
  refine zz_E.n 44 rfl rfl rfl ?_
  refine zz_E.n 47 rfl rfl rfl ?_
  refine zz_E.n 48 rfl rfl rfl ?_
  refine zz_E.n 49 rfl rfl rfl ?_
  refine zz_E.n 50 rfl rfl rfl ?_
  refine zz_E.n 51 rfl rfl rfl ?_
  refine zz_E.t (.int 0) 52 rfl rfl rfl ?_
  refine zz_E.n 53 rfl rfl rfl ?_
  refine zz_E.t (.int 1) 54 rfl rfl rfl ?_
  refine zz_E.n 55 rfl rfl rfl ?_
  refine zz_E.n 56 rfl rfl rfl ?_
  refine zz_E.n 57 rfl rfl rfl ?_
  refine zz_E.n 58 rfl rfl rfl ?_
  refine zz_E.cl (M' := zm_25) 61 rfl rfl (by decide) rfl rfl ⟨rfl, Nat.le_of_ble_eq_true rfl⟩ rfl ?_
  refine zz_E.n 1 rfl rfl rfl ?_
  refine zz_E.n 4 rfl rfl rfl ?_
  refine zz_E.n 5 rfl rfl rfl ?_
  refine zz_E.t (.int 2) 6 rfl rfl rfl ?_
  refine zz_E.n 7 rfl rfl rfl ?_
  refine zz_E.n 8 rfl rfl rfl ?_
  refine zz_E.n 9 rfl rfl rfl ?_
  refine zz_E.n 12 rfl rfl rfl ?_
  refine zz_E.n 13 rfl rfl rfl ?_
  refine zz_E.n 14 rfl rfl rfl ?_
  refine zz_E.n 15 rfl rfl rfl ?_
  refine zz_E.kt 38 rfl (by rfl) (by decide) rfl ?_
  refine zz_E.n 39 rfl rfl rfl ?_
  refine zz_E.n 42 rfl rfl rfl ?_
  refine zz_E.n 43 rfl rfl rfl ?_
  refine zz_E.n 44 rfl rfl rfl ?_
  refine zz_E.n 45 rfl rfl rfl ?_
  refine zz_E.n 46 rfl rfl rfl ?_
  refine zz_E.n 47 rfl rfl rfl ?_
  refine zz_E.n 48 rfl rfl rfl ?_
  refine zz_E.n 51 rfl rfl rfl ?_
  refine zz_E.n 52 rfl rfl rfl ?_
  refine zz_E.n 53 rfl rfl rfl ?_
  refine zz_E.n 54 rfl rfl rfl ?_
  refine zz_E.t (.int 3) 55 rfl rfl rfl ?_
  refine zz_E.n 56 rfl rfl rfl ?_
  refine zz_E.ret rfl rfl rfl ?_
  refine zz_E.n 62 rfl rfl rfl ?_
  refine zz_E.ret rfl rfl rfl ?_
  refine zz_E.jf 19 rfl (by rfl) (by decide) rfl ?_
  refine zz_E.n 20 rfl rfl rfl ?_
  refine zz_E.n 24 rfl rfl rfl ?_
  refine zz_E.ret rfl rfl rfl ?_
  refine zz_E.n 439 rfl rfl rfl ?_
  refine zz_E.n 440 rfl rfl rfl ?_
  refine zz_E.n 441 rfl rfl rfl ?_
  refine zz_E.n 442 rfl rfl rfl ?_
  refine zz_E.t (.int 1) 443 rfl rfl rfl ?_
  refine zz_E.t (.int 0) 444 rfl rfl rfl ?_
  refine zz_E.n 445 rfl rfl rfl ?_
  refine zz_E.n 446 rfl rfl rfl ?_
  refine zz_E.n 447 rfl rfl rfl ?_
  refine zz_E.t (.int 2) 448 rfl rfl rfl ?_
  refine zz_E.n 449 rfl rfl rfl ?_
  refine zz_E.cl (M' := zm_76) 452 rfl rfl (by decide) rfl rfl ⟨rfl, Nat.le_of_ble_eq_true rfl⟩ rfl ?_
  refine zz_E.n 1 rfl rfl rfl ?_
  refine zz_E.cl (M' := zm_73) 4 rfl rfl (by decide) rfl rfl ⟨rfl, Nat.le_of_ble_eq_true rfl⟩ rfl ?_
  refine zz_E.n 1 rfl rfl rfl ?_
  refine zz_E.jf 4 rfl (by rfl) (by decide) rfl ?_
  refine zz_E.n 5 rfl rfl rfl ?_
  refine zz_E.n 7 rfl rfl rfl ?_
  refine zz_E.kf 10 rfl (by rfl) (by decide) rfl ?_
  refine zz_E.n 11 rfl rfl rfl ?_
  refine zz_E.n 15 rfl rfl rfl ?_
  refine zz_E.ret rfl rfl rfl ?_
  refine zz_E.jt 9 rfl (by rfl) (by decide) rfl ?_
  refine zz_E.n 12 rfl rfl rfl ?_
  refine zz_E.n 13 rfl rfl rfl ?_
  refine zz_E.t (.int 0) 14 rfl rfl rfl ?_
  refine zz_E.n 15 rfl rfl rfl ?_
  refine zz_E.n 16 rfl rfl rfl ?_
  refine zz_E.n 19 rfl rfl rfl ?_
  refine zz_E.n 20 rfl rfl rfl ?_
  refine zz_E.t (.int (-1)) 21 rfl rfl rfl ?_
  refine zz_E.n 22 rfl rfl rfl ?_
  refine zz_E.kf 25 rfl (by rfl) (by decide) rfl ?_
  refine zz_E.n 26 rfl rfl rfl ?_
  refine zz_E.n 29 rfl rfl rfl ?_
  refine zz_E.n 30 rfl rfl rfl ?_
  refine zz_E.n 31 rfl rfl rfl ?_
  refine zz_E.n 32 rfl rfl rfl ?_
  refine zz_E.n 33 rfl rfl rfl ?_
  refine zz_E.n 36 rfl rfl rfl ?_
  refine zz_E.n 37 rfl rfl rfl ?_
  refine zz_E.n 38 rfl rfl rfl ?_
  refine zz_E.t (.int 1) 39 rfl rfl rfl ?_
  refine zz_E.n 40 rfl rfl rfl ?_
  refine zz_E.n 41 rfl rfl rfl ?_
  refine zz_E.n 42 rfl rfl rfl ?_
  refine zz_E.n 43 rfl rfl rfl ?_
  refine zz_E.cl (M' := zm_77) 46 rfl rfl (by decide) rfl rfl ⟨rfl, Nat.le_of_ble_eq_true rfl⟩ rfl ?_
  refine zz_E.n 1 rfl rfl rfl ?_
  refine zz_E.n 4 rfl rfl rfl ?_
  refine zz_E.n 5 rfl rfl rfl ?_
  refine zz_E.n 6 rfl rfl rfl ?_
  refine zz_E.t (.int 1) 7 rfl rfl rfl ?_
  refine zz_E.t (.int 0) 8 rfl rfl rfl ?_
  refine zz_E.ret rfl rfl rfl ?_
  refine zz_E.n 48 rfl rfl rfl ?_
  refine zz_E.kt 53 rfl (by rfl) (by decide) rfl ?_
  refine zz_E.n 54 rfl rfl rfl ?_
  refine zz_E.n 57 rfl rfl rfl ?_
  refine zz_E.n 58 rfl rfl rfl ?_
  refine zz_E.n 59 rfl rfl rfl ?_
  refine zz_E.t (.int 2) 60 rfl rfl rfl ?_
  refine zz_E.n 61 rfl rfl rfl ?_
  refine zz_E.n 62 rfl rfl rfl ?_
  refine zz_E.cl (M' := zm_77) 65 rfl rfl (by decide) rfl rfl ⟨rfl, Nat.le_of_ble_eq_true rfl⟩ rfl ?_
  refine zz_E.n 1 rfl rfl rfl ?_
  refine zz_E.n 4 rfl rfl rfl ?_
  refine zz_E.n 5 rfl rfl rfl ?_
  refine zz_E.n 6 rfl rfl rfl ?_
  refine zz_E.t (.int 1) 7 rfl rfl rfl ?_
  refine zz_E.t (.int 0) 8 rfl rfl rfl ?_
  refine zz_E.ret rfl rfl rfl ?_
  refine zz_E.t (.int 2) 66 rfl rfl rfl ?_
  refine zz_E.n 67 rfl rfl rfl ?_
  refine zz_E.n 68 rfl rfl rfl ?_
  refine zz_E.n 69 rfl rfl rfl ?_
  refine zz_E.n 72 rfl rfl rfl ?_
  refine zz_E.n 73 rfl rfl rfl ?_
  refine zz_E.n 74 rfl rfl rfl ?_
  refine zz_E.t (.int 1) 75 rfl rfl rfl ?_
  refine zz_E.n 76 rfl rfl rfl ?_
  refine zz_E.t (.int 0) 77 rfl rfl rfl ?_
  refine zz_E.n 78 rfl rfl rfl ?_
  refine zz_E.t (.int 1) 79 rfl rfl rfl ?_
  refine zz_E.n 80 rfl rfl rfl ?_
  refine zz_E.n 81 rfl rfl rfl ?_
  refine zz_E.ret rfl rfl rfl ?_
  refine zz_E.kt 652 rfl (by rfl) (by decide) rfl ?_
  refine zz_E.n 655 rfl rfl rfl ?_
  refine zz_E.n 18 rfl rfl rfl ?_
  refine zz_E.n 19 rfl rfl rfl ?_
  refine zz_E.n 20 rfl rfl rfl ?_
  refine zz_E.n 21 rfl rfl rfl ?_
  refine zz_E.n 23 rfl rfl rfl ?_
  refine zz_E.t (.int 0) 24 rfl rfl rfl ?_
  refine zz_E.kt 658 rfl (by rfl) (by decide) rfl ?_
  refine zz_E.n 659 rfl rfl rfl ?_
  refine zz_E.ret rfl rfl rfl ?_
  refine ⟨rfl, by simp only [List.length_set]; exact zv_lnh, zv_sl0 ?_⟩
  repeat (first | refine zv_slA ?_ (by decide) | refine zv_slO ?_ (by decide))
  exact Nat.le_trans (Nat.add_le_add_right zv_slh _) (by decide)
set_option maxRecDepth 100000 in
set_option maxHeartbeats 8000000 in
theorem zv_k10_1 (xs : Nat → Int32) : zz_E zp_P zt_tf zt_fd (zt_X 6 (fun q => if q = 1 then nI 1 else xs q)) 1000 zm_law 33 zv_L [.int (nI 10)] zv_h zv_Q := by
  refine zz_E.n 424 rfl rfl rfl ?_
  refine zz_E.n 425 rfl rfl rfl ?_
  refine zz_E.n 426 rfl rfl rfl ?_
  refine zz_E.n 427 rfl rfl rfl ?_
  refine zz_E.n 428 rfl rfl rfl ?_
  refine zz_E.t (.int 1) 429 rfl rfl rfl ?_
  refine zz_E.t (.int 1) 430 rfl rfl rfl ?_
  refine zz_E.n 431 rfl rfl rfl ?_
  refine zz_E.n 432 rfl rfl rfl ?_
  refine zz_E.n 433 rfl rfl rfl ?_
  refine zz_E.t (.int 2) 434 rfl rfl rfl ?_
  refine zz_E.n 435 rfl rfl rfl ?_
  refine zz_E.cl (M' := zm_12) 438 rfl rfl (by decide) rfl rfl ⟨rfl, Nat.le_of_ble_eq_true rfl⟩ rfl ?_
  refine zz_E.n 1 rfl rfl rfl ?_
  refine zz_E.cl (M' := zm_21) 4 rfl rfl (by decide) rfl rfl ⟨rfl, Nat.le_of_ble_eq_true rfl⟩ rfl ?_
  refine zz_E.n 1 rfl rfl rfl ?_
  refine zz_E.jf 4 rfl (by rfl) (by decide) rfl ?_
  refine zz_E.n 5 rfl rfl rfl ?_
  refine zz_E.n 7 rfl rfl rfl ?_
  refine zz_E.kf 10 rfl (by rfl) (by decide) rfl ?_
  refine zz_E.n 11 rfl rfl rfl ?_
  refine zz_E.n 15 rfl rfl rfl ?_
  refine zz_E.ret rfl rfl rfl ?_
  refine zz_E.jf 7 rfl (by rfl) (by decide) rfl ?_
  refine zz_E.n 8 rfl rfl rfl ?_
  refine zz_E.n 11 rfl rfl rfl ?_
  refine zz_E.n 12 rfl rfl rfl ?_
  refine zz_E.n 13 rfl rfl rfl ?_
  refine zz_E.cl (M' := zm_26) 16 rfl rfl (by decide) rfl rfl ⟨rfl, Nat.le_of_ble_eq_true rfl⟩ rfl ?_
  refine zz_E.n 1 rfl rfl rfl ?_
  refine zz_E.n 2 rfl rfl rfl ?_
  refine zz_E.cl (M' := zm_23) 5 rfl rfl (by decide) rfl rfl ⟨rfl, Nat.le_of_ble_eq_true rfl⟩ rfl ?_
  refine zz_E.n 1 rfl rfl rfl ?_
  refine zz_E.n 4 rfl rfl rfl ?_
  refine zz_E.n 5 rfl rfl rfl ?_
  refine zz_E.t (.int 0) 6 rfl rfl rfl ?_
  refine zz_E.jf 9 rfl (by rfl) (by decide) rfl ?_
  refine zz_E.n 10 rfl rfl rfl ?_
  refine zz_E.n 21 rfl rfl rfl ?_
  refine zz_E.ret rfl rfl rfl ?_
  refine zz_E.n 6 rfl rfl rfl ?_
  refine zz_E.kf 9 rfl (by rfl) (by decide) rfl ?_
  refine zz_E.n 10 rfl rfl rfl ?_
  refine zz_E.n 13 rfl rfl rfl ?_
  refine zz_E.n 14 rfl rfl rfl ?_
  refine zz_E.n 15 rfl rfl rfl ?_
  refine zz_E.n 16 rfl rfl rfl ?_
  refine zz_E.n 17 rfl rfl rfl ?_
  refine zz_E.n 18 rfl rfl rfl ?_
  refine zz_E.n 19 rfl rfl rfl ?_
  refine zz_E.cl (M' := zm_25) 22 rfl rfl (by decide) rfl rfl ⟨rfl, Nat.le_of_ble_eq_true rfl⟩ rfl ?_
  refine zz_E.n 1 rfl rfl rfl ?_
  refine zz_E.n 4 rfl rfl rfl ?_
  refine zz_E.n 5 rfl rfl rfl ?_
  refine zz_E.t (.int 0) 6 rfl rfl rfl ?_
  refine zz_E.n 7 rfl rfl rfl ?_
  refine zz_E.n 8 rfl rfl rfl ?_
  refine zz_E.n 9 rfl rfl rfl ?_
  refine zz_E.n 12 rfl rfl rfl ?_
  refine zz_E.n 13 rfl rfl rfl ?_
  refine zz_E.n 14 rfl rfl rfl ?_
  refine zz_E.n 15 rfl rfl rfl ?_
  refine zz_E.kt 38 rfl (by rfl) (by decide) rfl ?_
  refine zz_E.n 39 rfl rfl rfl ?_
  refine zz_E.n 42 rfl rfl rfl ?_
  refine zz_E.n 43 rfl rfl rfl ?_
  refine zz_E.n 44 rfl rfl rfl ?_
  refine zz_E.n 45 rfl rfl rfl ?_
  refine zz_E.n 46 rfl rfl rfl ?_
  refine zz_E.n 47 rfl rfl rfl ?_
  refine zz_E.n 48 rfl rfl rfl ?_
  refine zz_E.n 51 rfl rfl rfl ?_
  refine zz_E.n 52 rfl rfl rfl ?_
  refine zz_E.n 53 rfl rfl rfl ?_
  refine zz_E.n 54 rfl rfl rfl ?_
  refine zz_E.t (.int 1) 55 rfl rfl rfl ?_
  refine zz_E.n 56 rfl rfl rfl ?_
  refine zz_E.ret rfl rfl rfl ?_
  refine zz_E.n 23 rfl rfl rfl ?_
  refine zz_E.n 24 rfl rfl rfl ?_
  refine zz_E.n 25 rfl rfl rfl ?_
  refine zz_E.cl (M' := zm_25) 28 rfl rfl (by decide) rfl rfl ⟨rfl, Nat.le_of_ble_eq_true rfl⟩ rfl ?_
  refine zz_E.n 1 rfl rfl rfl ?_
  refine zz_E.n 4 rfl rfl rfl ?_
  refine zz_E.n 5 rfl rfl rfl ?_
  refine zz_E.t (.int 1) 6 rfl rfl rfl ?_
  refine zz_E.n 7 rfl rfl rfl ?_
  refine zz_E.n 8 rfl rfl rfl ?_
  refine zz_E.n 9 rfl rfl rfl ?_
  refine zz_E.n 12 rfl rfl rfl ?_
  refine zz_E.n 13 rfl rfl rfl ?_
  refine zz_E.n 14 rfl rfl rfl ?_
  refine zz_E.n 15 rfl rfl rfl ?_
  refine zz_E.kt 38 rfl (by rfl) (by decide) rfl ?_
  refine zz_E.n 39 rfl rfl rfl ?_
  refine zz_E.n 42 rfl rfl rfl ?_
  refine zz_E.n 43 rfl rfl rfl ?_
  refine zz_E.n 44 rfl rfl rfl ?_
  refine zz_E.n 45 rfl rfl rfl ?_
  refine zz_E.n 46 rfl rfl rfl ?_
  refine zz_E.n 47 rfl rfl rfl ?_
  refine zz_E.n 48 rfl rfl rfl ?_
  refine zz_E.n 51 rfl rfl rfl ?_
  refine zz_E.n 52 rfl rfl rfl ?_
  refine zz_E.n 53 rfl rfl rfl ?_
  refine zz_E.n 54 rfl rfl rfl ?_
  refine zz_E.t (.int 2) 55 rfl rfl rfl ?_
  refine zz_E.n 56 rfl rfl rfl ?_
  refine zz_E.ret rfl rfl rfl ?_
  refine zz_E.n 29 rfl rfl rfl ?_
  refine zz_E.n 32 rfl rfl rfl ?_
  refine zz_E.n 33 rfl rfl rfl ?_
  refine zz_E.n 34 rfl rfl rfl ?_
  refine zz_E.n 35 rfl rfl rfl ?_
  refine zz_E.t (.int 0) 36 rfl rfl rfl ?_
  refine zz_E.n 38 rfl rfl rfl ?_
  refine zz_E.kt 43 rfl (by rfl) (by decide) rfl ?_
  refine zz_E.n 44 rfl rfl rfl ?_
  refine zz_E.n 47 rfl rfl rfl ?_
  refine zz_E.n 48 rfl rfl rfl ?_
  refine zz_E.n 49 rfl rfl rfl ?_
  refine zz_E.n 50 rfl rfl rfl ?_
  refine zz_E.n 51 rfl rfl rfl ?_
  refine zz_E.t (.int 0) 52 rfl rfl rfl ?_
  refine zz_E.n 53 rfl rfl rfl ?_
  refine zz_E.t (.int 1) 54 rfl rfl rfl ?_
  refine zz_E.n 55 rfl rfl rfl ?_
  refine zz_E.n 56 rfl rfl rfl ?_
  refine zz_E.n 57 rfl rfl rfl ?_
  refine zz_E.n 58 rfl rfl rfl ?_
  refine zz_E.cl (M' := zm_25) 61 rfl rfl (by decide) rfl rfl ⟨rfl, Nat.le_of_ble_eq_true rfl⟩ rfl ?_
  refine zz_E.n 1 rfl rfl rfl ?_
  refine zz_E.n 4 rfl rfl rfl ?_
  refine zz_E.n 5 rfl rfl rfl ?_
  refine zz_E.t (.int 2) 6 rfl rfl rfl ?_
  refine zz_E.n 7 rfl rfl rfl ?_
  refine zz_E.n 8 rfl rfl rfl ?_
  refine zz_E.n 9 rfl rfl rfl ?_
  refine zz_E.n 12 rfl rfl rfl ?_
  refine zz_E.n 13 rfl rfl rfl ?_
  refine zz_E.n 14 rfl rfl rfl ?_
  refine zz_E.n 15 rfl rfl rfl ?_
  refine zz_E.kt 38 rfl (by rfl) (by decide) rfl ?_
  refine zz_E.n 39 rfl rfl rfl ?_
  refine zz_E.n 42 rfl rfl rfl ?_
  refine zz_E.n 43 rfl rfl rfl ?_
  refine zz_E.n 44 rfl rfl rfl ?_
  refine zz_E.n 45 rfl rfl rfl ?_
  refine zz_E.n 46 rfl rfl rfl ?_
  refine zz_E.n 47 rfl rfl rfl ?_
  refine zz_E.n 48 rfl rfl rfl ?_
  refine zz_E.n 51 rfl rfl rfl ?_
  refine zz_E.n 52 rfl rfl rfl ?_
  refine zz_E.n 53 rfl rfl rfl ?_
  refine zz_E.n 54 rfl rfl rfl ?_
  refine zz_E.t (.int 3) 55 rfl rfl rfl ?_
  refine zz_E.n 56 rfl rfl rfl ?_
  refine zz_E.ret rfl rfl rfl ?_
  refine zz_E.n 62 rfl rfl rfl ?_
  refine zz_E.ret rfl rfl rfl ?_
  refine zz_E.jf 19 rfl (by rfl) (by decide) rfl ?_
  refine zz_E.n 20 rfl rfl rfl ?_
  refine zz_E.n 24 rfl rfl rfl ?_
  refine zz_E.ret rfl rfl rfl ?_
  refine zz_E.n 439 rfl rfl rfl ?_
  refine zz_E.n 440 rfl rfl rfl ?_
  refine zz_E.n 441 rfl rfl rfl ?_
  refine zz_E.n 442 rfl rfl rfl ?_
  refine zz_E.t (.int 1) 443 rfl rfl rfl ?_
  refine zz_E.t (.int 1) 444 rfl rfl rfl ?_
  refine zz_E.n 445 rfl rfl rfl ?_
  refine zz_E.n 446 rfl rfl rfl ?_
  refine zz_E.n 447 rfl rfl rfl ?_
  refine zz_E.t (.int 2) 448 rfl rfl rfl ?_
  refine zz_E.n 449 rfl rfl rfl ?_
  refine zz_E.cl (M' := zm_76) 452 rfl rfl (by decide) rfl rfl ⟨rfl, Nat.le_of_ble_eq_true rfl⟩ rfl ?_
  refine zz_E.n 1 rfl rfl rfl ?_
  refine zz_E.cl (M' := zm_73) 4 rfl rfl (by decide) rfl rfl ⟨rfl, Nat.le_of_ble_eq_true rfl⟩ rfl ?_
  refine zz_E.n 1 rfl rfl rfl ?_
  refine zz_E.jf 4 rfl (by rfl) (by decide) rfl ?_
  refine zz_E.n 5 rfl rfl rfl ?_
  refine zz_E.n 7 rfl rfl rfl ?_
  refine zz_E.kf 10 rfl (by rfl) (by decide) rfl ?_
  refine zz_E.n 11 rfl rfl rfl ?_
  refine zz_E.n 15 rfl rfl rfl ?_
  refine zz_E.ret rfl rfl rfl ?_
  refine zz_E.jt 9 rfl (by rfl) (by decide) rfl ?_
  refine zz_E.n 12 rfl rfl rfl ?_
  refine zz_E.n 13 rfl rfl rfl ?_
  refine zz_E.t (.int 2410) 14 rfl rfl rfl ?_
  refine zz_E.n 15 rfl rfl rfl ?_
  refine zz_E.n 16 rfl rfl rfl ?_
  refine zz_E.n 19 rfl rfl rfl ?_
  refine zz_E.n 20 rfl rfl rfl ?_
  refine zz_E.t (.int (-1)) 21 rfl rfl rfl ?_
  refine zz_E.n 22 rfl rfl rfl ?_
  refine zz_E.kf 25 rfl (by rfl) (by decide) rfl ?_
  refine zz_E.n 26 rfl rfl rfl ?_
  refine zz_E.n 29 rfl rfl rfl ?_
  refine zz_E.n 30 rfl rfl rfl ?_
  refine zz_E.n 31 rfl rfl rfl ?_
  refine zz_E.n 32 rfl rfl rfl ?_
  refine zz_E.n 33 rfl rfl rfl ?_
  refine zz_E.n 36 rfl rfl rfl ?_
  refine zz_E.n 37 rfl rfl rfl ?_
  refine zz_E.n 38 rfl rfl rfl ?_
  refine zz_E.t (.int 2411) 39 rfl rfl rfl ?_
  refine zz_E.n 40 rfl rfl rfl ?_
  refine zz_E.n 41 rfl rfl rfl ?_
  refine zz_E.n 42 rfl rfl rfl ?_
  refine zz_E.n 43 rfl rfl rfl ?_
  refine zz_E.cl (M' := zm_77) 46 rfl rfl (by decide) rfl rfl ⟨rfl, Nat.le_of_ble_eq_true rfl⟩ rfl ?_
  refine zz_E.n 1 rfl rfl rfl ?_
  refine zz_E.n 4 rfl rfl rfl ?_
  refine zz_E.n 5 rfl rfl rfl ?_
  refine zz_E.n 6 rfl rfl rfl ?_
  refine zz_E.t (.int 2411) 7 rfl rfl rfl ?_
  refine zz_E.t (.int 0) 8 rfl rfl rfl ?_
  refine zz_E.ret rfl rfl rfl ?_
  refine zz_E.n 48 rfl rfl rfl ?_
  refine zz_E.kt 53 rfl (by rfl) (by decide) rfl ?_
  refine zz_E.n 54 rfl rfl rfl ?_
  refine zz_E.n 57 rfl rfl rfl ?_
  refine zz_E.n 58 rfl rfl rfl ?_
  refine zz_E.n 59 rfl rfl rfl ?_
  refine zz_E.t (.int 2412) 60 rfl rfl rfl ?_
  refine zz_E.n 61 rfl rfl rfl ?_
  refine zz_E.n 62 rfl rfl rfl ?_
  refine zz_E.cl (M' := zm_77) 65 rfl rfl (by decide) rfl rfl ⟨rfl, Nat.le_of_ble_eq_true rfl⟩ rfl ?_
  refine zz_E.n 1 rfl rfl rfl ?_
  refine zz_E.n 4 rfl rfl rfl ?_
  refine zz_E.n 5 rfl rfl rfl ?_
  refine zz_E.n 6 rfl rfl rfl ?_
  refine zz_E.t (.int 2411) 7 rfl rfl rfl ?_
  refine zz_E.t (.int 0) 8 rfl rfl rfl ?_
  refine zz_E.ret rfl rfl rfl ?_
  refine zz_E.t (.int 2412) 66 rfl rfl rfl ?_
  refine zz_E.n 67 rfl rfl rfl ?_
  refine zz_E.n 68 rfl rfl rfl ?_
  refine zz_E.n 69 rfl rfl rfl ?_
  refine zz_E.n 72 rfl rfl rfl ?_
  refine zz_E.n 73 rfl rfl rfl ?_
  refine zz_E.n 74 rfl rfl rfl ?_
  refine zz_E.t (.int 2411) 75 rfl rfl rfl ?_
  refine zz_E.n 76 rfl rfl rfl ?_
  refine zz_E.t (.int 0) 77 rfl rfl rfl ?_
  refine zz_E.n 78 rfl rfl rfl ?_
  refine zz_E.t (.int 1) 79 rfl rfl rfl ?_
  refine zz_E.n 80 rfl rfl rfl ?_
  refine zz_E.n 81 rfl rfl rfl ?_
  refine zz_E.ret rfl rfl rfl ?_
  refine zz_E.kt 652 rfl (by rfl) (by decide) rfl ?_
  refine zz_E.n 655 rfl rfl rfl ?_
  refine zz_E.n 18 rfl rfl rfl ?_
  refine zz_E.n 19 rfl rfl rfl ?_
  refine zz_E.n 20 rfl rfl rfl ?_
  refine zz_E.n 21 rfl rfl rfl ?_
  refine zz_E.n 23 rfl rfl rfl ?_
  refine zz_E.t (.int 0) 24 rfl rfl rfl ?_
  refine zz_E.kt 658 rfl (by rfl) (by decide) rfl ?_
  refine zz_E.n 659 rfl rfl rfl ?_
  refine zz_E.ret rfl rfl rfl ?_
  refine ⟨rfl, by simp only [List.length_set]; exact zv_lnh, zv_sl0 ?_⟩
  repeat (first | refine zv_slA ?_ (by decide) | refine zv_slO ?_ (by decide))
  exact Nat.le_trans (Nat.add_le_add_right zv_slh _) (by decide)
set_option maxRecDepth 100000 in
set_option maxHeartbeats 8000000 in
theorem zv_k10_2 (xs : Nat → Int32) : zz_E zp_P zt_tf zt_fd (zt_X 6 (fun q => if q = 1 then nI 2 else xs q)) 1000 zm_law 33 zv_L [.int (nI 10)] zv_h zv_Q := by
  refine zz_E.n 424 rfl rfl rfl ?_
  refine zz_E.n 425 rfl rfl rfl ?_
  refine zz_E.n 426 rfl rfl rfl ?_
  refine zz_E.n 427 rfl rfl rfl ?_
  refine zz_E.n 428 rfl rfl rfl ?_
  refine zz_E.t (.int 1) 429 rfl rfl rfl ?_
  refine zz_E.t (.int 2) 430 rfl rfl rfl ?_
  refine zz_E.n 431 rfl rfl rfl ?_
  refine zz_E.n 432 rfl rfl rfl ?_
  refine zz_E.n 433 rfl rfl rfl ?_
  refine zz_E.t (.int 2) 434 rfl rfl rfl ?_
  refine zz_E.n 435 rfl rfl rfl ?_
  refine zz_E.cl (M' := zm_12) 438 rfl rfl (by decide) rfl rfl ⟨rfl, Nat.le_of_ble_eq_true rfl⟩ rfl ?_
  refine zz_E.n 1 rfl rfl rfl ?_
  refine zz_E.cl (M' := zm_21) 4 rfl rfl (by decide) rfl rfl ⟨rfl, Nat.le_of_ble_eq_true rfl⟩ rfl ?_
  refine zz_E.n 1 rfl rfl rfl ?_
  refine zz_E.jf 4 rfl (by rfl) (by decide) rfl ?_
  refine zz_E.n 5 rfl rfl rfl ?_
  refine zz_E.n 7 rfl rfl rfl ?_
  refine zz_E.kf 10 rfl (by rfl) (by decide) rfl ?_
  refine zz_E.n 11 rfl rfl rfl ?_
  refine zz_E.n 15 rfl rfl rfl ?_
  refine zz_E.ret rfl rfl rfl ?_
  refine zz_E.jf 7 rfl (by rfl) (by decide) rfl ?_
  refine zz_E.n 8 rfl rfl rfl ?_
  refine zz_E.n 11 rfl rfl rfl ?_
  refine zz_E.n 12 rfl rfl rfl ?_
  refine zz_E.n 13 rfl rfl rfl ?_
  refine zz_E.cl (M' := zm_26) 16 rfl rfl (by decide) rfl rfl ⟨rfl, Nat.le_of_ble_eq_true rfl⟩ rfl ?_
  refine zz_E.n 1 rfl rfl rfl ?_
  refine zz_E.n 2 rfl rfl rfl ?_
  refine zz_E.cl (M' := zm_23) 5 rfl rfl (by decide) rfl rfl ⟨rfl, Nat.le_of_ble_eq_true rfl⟩ rfl ?_
  refine zz_E.n 1 rfl rfl rfl ?_
  refine zz_E.n 4 rfl rfl rfl ?_
  refine zz_E.n 5 rfl rfl rfl ?_
  refine zz_E.t (.int 0) 6 rfl rfl rfl ?_
  refine zz_E.jf 9 rfl (by rfl) (by decide) rfl ?_
  refine zz_E.n 10 rfl rfl rfl ?_
  refine zz_E.n 21 rfl rfl rfl ?_
  refine zz_E.ret rfl rfl rfl ?_
  refine zz_E.n 6 rfl rfl rfl ?_
  refine zz_E.kf 9 rfl (by rfl) (by decide) rfl ?_
  refine zz_E.n 10 rfl rfl rfl ?_
  refine zz_E.n 13 rfl rfl rfl ?_
  refine zz_E.n 14 rfl rfl rfl ?_
  refine zz_E.n 15 rfl rfl rfl ?_
  refine zz_E.n 16 rfl rfl rfl ?_
  refine zz_E.n 17 rfl rfl rfl ?_
  refine zz_E.n 18 rfl rfl rfl ?_
  refine zz_E.n 19 rfl rfl rfl ?_
  refine zz_E.cl (M' := zm_25) 22 rfl rfl (by decide) rfl rfl ⟨rfl, Nat.le_of_ble_eq_true rfl⟩ rfl ?_
  refine zz_E.n 1 rfl rfl rfl ?_
  refine zz_E.n 4 rfl rfl rfl ?_
  refine zz_E.n 5 rfl rfl rfl ?_
  refine zz_E.t (.int 0) 6 rfl rfl rfl ?_
  refine zz_E.n 7 rfl rfl rfl ?_
  refine zz_E.n 8 rfl rfl rfl ?_
  refine zz_E.n 9 rfl rfl rfl ?_
  refine zz_E.n 12 rfl rfl rfl ?_
  refine zz_E.n 13 rfl rfl rfl ?_
  refine zz_E.n 14 rfl rfl rfl ?_
  refine zz_E.n 15 rfl rfl rfl ?_
  refine zz_E.kt 38 rfl (by rfl) (by decide) rfl ?_
  refine zz_E.n 39 rfl rfl rfl ?_
  refine zz_E.n 42 rfl rfl rfl ?_
  refine zz_E.n 43 rfl rfl rfl ?_
  refine zz_E.n 44 rfl rfl rfl ?_
  refine zz_E.n 45 rfl rfl rfl ?_
  refine zz_E.n 46 rfl rfl rfl ?_
  refine zz_E.n 47 rfl rfl rfl ?_
  refine zz_E.n 48 rfl rfl rfl ?_
  refine zz_E.n 51 rfl rfl rfl ?_
  refine zz_E.n 52 rfl rfl rfl ?_
  refine zz_E.n 53 rfl rfl rfl ?_
  refine zz_E.n 54 rfl rfl rfl ?_
  refine zz_E.t (.int 1) 55 rfl rfl rfl ?_
  refine zz_E.n 56 rfl rfl rfl ?_
  refine zz_E.ret rfl rfl rfl ?_
  refine zz_E.n 23 rfl rfl rfl ?_
  refine zz_E.n 24 rfl rfl rfl ?_
  refine zz_E.n 25 rfl rfl rfl ?_
  refine zz_E.cl (M' := zm_25) 28 rfl rfl (by decide) rfl rfl ⟨rfl, Nat.le_of_ble_eq_true rfl⟩ rfl ?_
  refine zz_E.n 1 rfl rfl rfl ?_
  refine zz_E.n 4 rfl rfl rfl ?_
  refine zz_E.n 5 rfl rfl rfl ?_
  refine zz_E.t (.int 1) 6 rfl rfl rfl ?_
  refine zz_E.n 7 rfl rfl rfl ?_
  refine zz_E.n 8 rfl rfl rfl ?_
  refine zz_E.n 9 rfl rfl rfl ?_
  refine zz_E.n 12 rfl rfl rfl ?_
  refine zz_E.n 13 rfl rfl rfl ?_
  refine zz_E.n 14 rfl rfl rfl ?_
  refine zz_E.n 15 rfl rfl rfl ?_
  refine zz_E.kt 38 rfl (by rfl) (by decide) rfl ?_
  refine zz_E.n 39 rfl rfl rfl ?_
  refine zz_E.n 42 rfl rfl rfl ?_
  refine zz_E.n 43 rfl rfl rfl ?_
  refine zz_E.n 44 rfl rfl rfl ?_
  refine zz_E.n 45 rfl rfl rfl ?_
  refine zz_E.n 46 rfl rfl rfl ?_
  refine zz_E.n 47 rfl rfl rfl ?_
  refine zz_E.n 48 rfl rfl rfl ?_
  refine zz_E.n 51 rfl rfl rfl ?_
  refine zz_E.n 52 rfl rfl rfl ?_
  refine zz_E.n 53 rfl rfl rfl ?_
  refine zz_E.n 54 rfl rfl rfl ?_
  refine zz_E.t (.int 2) 55 rfl rfl rfl ?_
  refine zz_E.n 56 rfl rfl rfl ?_
  refine zz_E.ret rfl rfl rfl ?_
  refine zz_E.n 29 rfl rfl rfl ?_
  refine zz_E.n 32 rfl rfl rfl ?_
  refine zz_E.n 33 rfl rfl rfl ?_
  refine zz_E.n 34 rfl rfl rfl ?_
  refine zz_E.n 35 rfl rfl rfl ?_
  refine zz_E.t (.int 0) 36 rfl rfl rfl ?_
  refine zz_E.n 38 rfl rfl rfl ?_
  refine zz_E.kt 43 rfl (by rfl) (by decide) rfl ?_
  refine zz_E.n 44 rfl rfl rfl ?_
  refine zz_E.n 47 rfl rfl rfl ?_
  refine zz_E.n 48 rfl rfl rfl ?_
  refine zz_E.n 49 rfl rfl rfl ?_
  refine zz_E.n 50 rfl rfl rfl ?_
  refine zz_E.n 51 rfl rfl rfl ?_
  refine zz_E.t (.int 0) 52 rfl rfl rfl ?_
  refine zz_E.n 53 rfl rfl rfl ?_
  refine zz_E.t (.int 1) 54 rfl rfl rfl ?_
  refine zz_E.n 55 rfl rfl rfl ?_
  refine zz_E.n 56 rfl rfl rfl ?_
  refine zz_E.n 57 rfl rfl rfl ?_
  refine zz_E.n 58 rfl rfl rfl ?_
  refine zz_E.cl (M' := zm_25) 61 rfl rfl (by decide) rfl rfl ⟨rfl, Nat.le_of_ble_eq_true rfl⟩ rfl ?_
  refine zz_E.n 1 rfl rfl rfl ?_
  refine zz_E.n 4 rfl rfl rfl ?_
  refine zz_E.n 5 rfl rfl rfl ?_
  refine zz_E.t (.int 2) 6 rfl rfl rfl ?_
  refine zz_E.n 7 rfl rfl rfl ?_
  refine zz_E.n 8 rfl rfl rfl ?_
  refine zz_E.n 9 rfl rfl rfl ?_
  refine zz_E.n 12 rfl rfl rfl ?_
  refine zz_E.n 13 rfl rfl rfl ?_
  refine zz_E.n 14 rfl rfl rfl ?_
  refine zz_E.n 15 rfl rfl rfl ?_
  refine zz_E.kt 38 rfl (by rfl) (by decide) rfl ?_
  refine zz_E.n 39 rfl rfl rfl ?_
  refine zz_E.n 42 rfl rfl rfl ?_
  refine zz_E.n 43 rfl rfl rfl ?_
  refine zz_E.n 44 rfl rfl rfl ?_
  refine zz_E.n 45 rfl rfl rfl ?_
  refine zz_E.n 46 rfl rfl rfl ?_
  refine zz_E.n 47 rfl rfl rfl ?_
  refine zz_E.n 48 rfl rfl rfl ?_
  refine zz_E.n 51 rfl rfl rfl ?_
  refine zz_E.n 52 rfl rfl rfl ?_
  refine zz_E.n 53 rfl rfl rfl ?_
  refine zz_E.n 54 rfl rfl rfl ?_
  refine zz_E.t (.int 3) 55 rfl rfl rfl ?_
  refine zz_E.n 56 rfl rfl rfl ?_
  refine zz_E.ret rfl rfl rfl ?_
  refine zz_E.n 62 rfl rfl rfl ?_
  refine zz_E.ret rfl rfl rfl ?_
  refine zz_E.jf 19 rfl (by rfl) (by decide) rfl ?_
  refine zz_E.n 20 rfl rfl rfl ?_
  refine zz_E.n 24 rfl rfl rfl ?_
  refine zz_E.ret rfl rfl rfl ?_
  refine zz_E.n 439 rfl rfl rfl ?_
  refine zz_E.n 440 rfl rfl rfl ?_
  refine zz_E.n 441 rfl rfl rfl ?_
  refine zz_E.n 442 rfl rfl rfl ?_
  refine zz_E.t (.int 1) 443 rfl rfl rfl ?_
  refine zz_E.t (.int 2) 444 rfl rfl rfl ?_
  refine zz_E.n 445 rfl rfl rfl ?_
  refine zz_E.n 446 rfl rfl rfl ?_
  refine zz_E.n 447 rfl rfl rfl ?_
  refine zz_E.t (.int 2) 448 rfl rfl rfl ?_
  refine zz_E.n 449 rfl rfl rfl ?_
  refine zz_E.cl (M' := zm_76) 452 rfl rfl (by decide) rfl rfl ⟨rfl, Nat.le_of_ble_eq_true rfl⟩ rfl ?_
  refine zz_E.n 1 rfl rfl rfl ?_
  refine zz_E.cl (M' := zm_73) 4 rfl rfl (by decide) rfl rfl ⟨rfl, Nat.le_of_ble_eq_true rfl⟩ rfl ?_
  refine zz_E.n 1 rfl rfl rfl ?_
  refine zz_E.jf 4 rfl (by rfl) (by decide) rfl ?_
  refine zz_E.n 5 rfl rfl rfl ?_
  refine zz_E.n 7 rfl rfl rfl ?_
  refine zz_E.kf 10 rfl (by rfl) (by decide) rfl ?_
  refine zz_E.n 11 rfl rfl rfl ?_
  refine zz_E.n 15 rfl rfl rfl ?_
  refine zz_E.ret rfl rfl rfl ?_
  refine zz_E.jt 9 rfl (by rfl) (by decide) rfl ?_
  refine zz_E.n 12 rfl rfl rfl ?_
  refine zz_E.n 13 rfl rfl rfl ?_
  refine zz_E.t (.int 4820) 14 rfl rfl rfl ?_
  refine zz_E.n 15 rfl rfl rfl ?_
  refine zz_E.n 16 rfl rfl rfl ?_
  refine zz_E.n 19 rfl rfl rfl ?_
  refine zz_E.n 20 rfl rfl rfl ?_
  refine zz_E.t (.int (-1)) 21 rfl rfl rfl ?_
  refine zz_E.n 22 rfl rfl rfl ?_
  refine zz_E.kf 25 rfl (by rfl) (by decide) rfl ?_
  refine zz_E.n 26 rfl rfl rfl ?_
  refine zz_E.n 29 rfl rfl rfl ?_
  refine zz_E.n 30 rfl rfl rfl ?_
  refine zz_E.n 31 rfl rfl rfl ?_
  refine zz_E.n 32 rfl rfl rfl ?_
  refine zz_E.n 33 rfl rfl rfl ?_
  refine zz_E.n 36 rfl rfl rfl ?_
  refine zz_E.n 37 rfl rfl rfl ?_
  refine zz_E.n 38 rfl rfl rfl ?_
  refine zz_E.t (.int 4821) 39 rfl rfl rfl ?_
  refine zz_E.n 40 rfl rfl rfl ?_
  refine zz_E.n 41 rfl rfl rfl ?_
  refine zz_E.n 42 rfl rfl rfl ?_
  refine zz_E.n 43 rfl rfl rfl ?_
  refine zz_E.cl (M' := zm_77) 46 rfl rfl (by decide) rfl rfl ⟨rfl, Nat.le_of_ble_eq_true rfl⟩ rfl ?_
  refine zz_E.n 1 rfl rfl rfl ?_
  refine zz_E.n 4 rfl rfl rfl ?_
  refine zz_E.n 5 rfl rfl rfl ?_
  refine zz_E.n 6 rfl rfl rfl ?_
  refine zz_E.t (.int 4821) 7 rfl rfl rfl ?_
  refine zz_E.t (.int 0) 8 rfl rfl rfl ?_
  refine zz_E.ret rfl rfl rfl ?_
  refine zz_E.n 48 rfl rfl rfl ?_
  refine zz_E.kt 53 rfl (by rfl) (by decide) rfl ?_
  refine zz_E.n 54 rfl rfl rfl ?_
  refine zz_E.n 57 rfl rfl rfl ?_
  refine zz_E.n 58 rfl rfl rfl ?_
  refine zz_E.n 59 rfl rfl rfl ?_
  refine zz_E.t (.int 4822) 60 rfl rfl rfl ?_
  refine zz_E.n 61 rfl rfl rfl ?_
  refine zz_E.n 62 rfl rfl rfl ?_
  refine zz_E.cl (M' := zm_77) 65 rfl rfl (by decide) rfl rfl ⟨rfl, Nat.le_of_ble_eq_true rfl⟩ rfl ?_
  refine zz_E.n 1 rfl rfl rfl ?_
  refine zz_E.n 4 rfl rfl rfl ?_
  refine zz_E.n 5 rfl rfl rfl ?_
  refine zz_E.n 6 rfl rfl rfl ?_
  refine zz_E.t (.int 4821) 7 rfl rfl rfl ?_
  refine zz_E.t (.int 0) 8 rfl rfl rfl ?_
  refine zz_E.ret rfl rfl rfl ?_
  refine zz_E.t (.int 4822) 66 rfl rfl rfl ?_
  refine zz_E.n 67 rfl rfl rfl ?_
  refine zz_E.n 68 rfl rfl rfl ?_
  refine zz_E.n 69 rfl rfl rfl ?_
  refine zz_E.n 72 rfl rfl rfl ?_
  refine zz_E.n 73 rfl rfl rfl ?_
  refine zz_E.n 74 rfl rfl rfl ?_
  refine zz_E.t (.int 4821) 75 rfl rfl rfl ?_
  refine zz_E.n 76 rfl rfl rfl ?_
  refine zz_E.t (.int 0) 77 rfl rfl rfl ?_
  refine zz_E.n 78 rfl rfl rfl ?_
  refine zz_E.t (.int 1) 79 rfl rfl rfl ?_
  refine zz_E.n 80 rfl rfl rfl ?_
  refine zz_E.n 81 rfl rfl rfl ?_
  refine zz_E.ret rfl rfl rfl ?_
  refine zz_E.kt 652 rfl (by rfl) (by decide) rfl ?_
  refine zz_E.n 655 rfl rfl rfl ?_
  refine zz_E.n 18 rfl rfl rfl ?_
  refine zz_E.n 19 rfl rfl rfl ?_
  refine zz_E.n 20 rfl rfl rfl ?_
  refine zz_E.n 21 rfl rfl rfl ?_
  refine zz_E.n 23 rfl rfl rfl ?_
  refine zz_E.t (.int 0) 24 rfl rfl rfl ?_
  refine zz_E.kt 658 rfl (by rfl) (by decide) rfl ?_
  refine zz_E.n 659 rfl rfl rfl ?_
  refine zz_E.ret rfl rfl rfl ?_
  refine ⟨rfl, by simp only [List.length_set]; exact zv_lnh, zv_sl0 ?_⟩
  repeat (first | refine zv_slA ?_ (by decide) | refine zv_slO ?_ (by decide))
  exact Nat.le_trans (Nat.add_le_add_right zv_slh _) (by decide)
set_option maxRecDepth 100000 in
set_option maxHeartbeats 8000000 in
theorem zv_k10_3 (xs : Nat → Int32) : zz_E zp_P zt_tf zt_fd (zt_X 6 (fun q => if q = 1 then nI 3 else xs q)) 1000 zm_law 33 zv_L [.int (nI 10)] zv_h zv_Q := by
  refine zz_E.n 424 rfl rfl rfl ?_
  refine zz_E.n 425 rfl rfl rfl ?_
  refine zz_E.n 426 rfl rfl rfl ?_
  refine zz_E.n 427 rfl rfl rfl ?_
  refine zz_E.n 428 rfl rfl rfl ?_
  refine zz_E.t (.int 1) 429 rfl rfl rfl ?_
  refine zz_E.t (.int 3) 430 rfl rfl rfl ?_
  refine zz_E.n 431 rfl rfl rfl ?_
  refine zz_E.n 432 rfl rfl rfl ?_
  refine zz_E.n 433 rfl rfl rfl ?_
  refine zz_E.t (.int 2) 434 rfl rfl rfl ?_
  refine zz_E.n 435 rfl rfl rfl ?_
  refine zz_E.cl (M' := zm_12) 438 rfl rfl (by decide) rfl rfl ⟨rfl, Nat.le_of_ble_eq_true rfl⟩ rfl ?_
  refine zz_E.n 1 rfl rfl rfl ?_
  refine zz_E.cl (M' := zm_21) 4 rfl rfl (by decide) rfl rfl ⟨rfl, Nat.le_of_ble_eq_true rfl⟩ rfl ?_
  refine zz_E.n 1 rfl rfl rfl ?_
  refine zz_E.jf 4 rfl (by rfl) (by decide) rfl ?_
  refine zz_E.n 5 rfl rfl rfl ?_
  refine zz_E.n 7 rfl rfl rfl ?_
  refine zz_E.kf 10 rfl (by rfl) (by decide) rfl ?_
  refine zz_E.n 11 rfl rfl rfl ?_
  refine zz_E.n 15 rfl rfl rfl ?_
  refine zz_E.ret rfl rfl rfl ?_
  refine zz_E.jf 7 rfl (by rfl) (by decide) rfl ?_
  refine zz_E.n 8 rfl rfl rfl ?_
  refine zz_E.n 11 rfl rfl rfl ?_
  refine zz_E.n 12 rfl rfl rfl ?_
  refine zz_E.n 13 rfl rfl rfl ?_
  refine zz_E.cl (M' := zm_26) 16 rfl rfl (by decide) rfl rfl ⟨rfl, Nat.le_of_ble_eq_true rfl⟩ rfl ?_
  refine zz_E.n 1 rfl rfl rfl ?_
  refine zz_E.n 2 rfl rfl rfl ?_
  refine zz_E.cl (M' := zm_23) 5 rfl rfl (by decide) rfl rfl ⟨rfl, Nat.le_of_ble_eq_true rfl⟩ rfl ?_
  refine zz_E.n 1 rfl rfl rfl ?_
  refine zz_E.n 4 rfl rfl rfl ?_
  refine zz_E.n 5 rfl rfl rfl ?_
  refine zz_E.t (.int 0) 6 rfl rfl rfl ?_
  refine zz_E.jf 9 rfl (by rfl) (by decide) rfl ?_
  refine zz_E.n 10 rfl rfl rfl ?_
  refine zz_E.n 21 rfl rfl rfl ?_
  refine zz_E.ret rfl rfl rfl ?_
  refine zz_E.n 6 rfl rfl rfl ?_
  refine zz_E.kf 9 rfl (by rfl) (by decide) rfl ?_
  refine zz_E.n 10 rfl rfl rfl ?_
  refine zz_E.n 13 rfl rfl rfl ?_
  refine zz_E.n 14 rfl rfl rfl ?_
  refine zz_E.n 15 rfl rfl rfl ?_
  refine zz_E.n 16 rfl rfl rfl ?_
  refine zz_E.n 17 rfl rfl rfl ?_
  refine zz_E.n 18 rfl rfl rfl ?_
  refine zz_E.n 19 rfl rfl rfl ?_
  refine zz_E.cl (M' := zm_25) 22 rfl rfl (by decide) rfl rfl ⟨rfl, Nat.le_of_ble_eq_true rfl⟩ rfl ?_
  refine zz_E.n 1 rfl rfl rfl ?_
  refine zz_E.n 4 rfl rfl rfl ?_
  refine zz_E.n 5 rfl rfl rfl ?_
  refine zz_E.t (.int 0) 6 rfl rfl rfl ?_
  refine zz_E.n 7 rfl rfl rfl ?_
  refine zz_E.n 8 rfl rfl rfl ?_
  refine zz_E.n 9 rfl rfl rfl ?_
  refine zz_E.n 12 rfl rfl rfl ?_
  refine zz_E.n 13 rfl rfl rfl ?_
  refine zz_E.n 14 rfl rfl rfl ?_
  refine zz_E.n 15 rfl rfl rfl ?_
  refine zz_E.kt 38 rfl (by rfl) (by decide) rfl ?_
  refine zz_E.n 39 rfl rfl rfl ?_
  refine zz_E.n 42 rfl rfl rfl ?_
  refine zz_E.n 43 rfl rfl rfl ?_
  refine zz_E.n 44 rfl rfl rfl ?_
  refine zz_E.n 45 rfl rfl rfl ?_
  refine zz_E.n 46 rfl rfl rfl ?_
  refine zz_E.n 47 rfl rfl rfl ?_
  refine zz_E.n 48 rfl rfl rfl ?_
  refine zz_E.n 51 rfl rfl rfl ?_
  refine zz_E.n 52 rfl rfl rfl ?_
  refine zz_E.n 53 rfl rfl rfl ?_
  refine zz_E.n 54 rfl rfl rfl ?_
  refine zz_E.t (.int 1) 55 rfl rfl rfl ?_
  refine zz_E.n 56 rfl rfl rfl ?_
  refine zz_E.ret rfl rfl rfl ?_
  refine zz_E.n 23 rfl rfl rfl ?_
  refine zz_E.n 24 rfl rfl rfl ?_
  refine zz_E.n 25 rfl rfl rfl ?_
  refine zz_E.cl (M' := zm_25) 28 rfl rfl (by decide) rfl rfl ⟨rfl, Nat.le_of_ble_eq_true rfl⟩ rfl ?_
  refine zz_E.n 1 rfl rfl rfl ?_
  refine zz_E.n 4 rfl rfl rfl ?_
  refine zz_E.n 5 rfl rfl rfl ?_
  refine zz_E.t (.int 1) 6 rfl rfl rfl ?_
  refine zz_E.n 7 rfl rfl rfl ?_
  refine zz_E.n 8 rfl rfl rfl ?_
  refine zz_E.n 9 rfl rfl rfl ?_
  refine zz_E.n 12 rfl rfl rfl ?_
  refine zz_E.n 13 rfl rfl rfl ?_
  refine zz_E.n 14 rfl rfl rfl ?_
  refine zz_E.n 15 rfl rfl rfl ?_
  refine zz_E.kt 38 rfl (by rfl) (by decide) rfl ?_
  refine zz_E.n 39 rfl rfl rfl ?_
  refine zz_E.n 42 rfl rfl rfl ?_
  refine zz_E.n 43 rfl rfl rfl ?_
  refine zz_E.n 44 rfl rfl rfl ?_
  refine zz_E.n 45 rfl rfl rfl ?_
  refine zz_E.n 46 rfl rfl rfl ?_
  refine zz_E.n 47 rfl rfl rfl ?_
  refine zz_E.n 48 rfl rfl rfl ?_
  refine zz_E.n 51 rfl rfl rfl ?_
  refine zz_E.n 52 rfl rfl rfl ?_
  refine zz_E.n 53 rfl rfl rfl ?_
  refine zz_E.n 54 rfl rfl rfl ?_
  refine zz_E.t (.int 2) 55 rfl rfl rfl ?_
  refine zz_E.n 56 rfl rfl rfl ?_
  refine zz_E.ret rfl rfl rfl ?_
  refine zz_E.n 29 rfl rfl rfl ?_
  refine zz_E.n 32 rfl rfl rfl ?_
  refine zz_E.n 33 rfl rfl rfl ?_
  refine zz_E.n 34 rfl rfl rfl ?_
  refine zz_E.n 35 rfl rfl rfl ?_
  refine zz_E.t (.int 0) 36 rfl rfl rfl ?_
  refine zz_E.n 38 rfl rfl rfl ?_
  refine zz_E.kt 43 rfl (by rfl) (by decide) rfl ?_
  refine zz_E.n 44 rfl rfl rfl ?_
  refine zz_E.n 47 rfl rfl rfl ?_
  refine zz_E.n 48 rfl rfl rfl ?_
  refine zz_E.n 49 rfl rfl rfl ?_
  refine zz_E.n 50 rfl rfl rfl ?_
  refine zz_E.n 51 rfl rfl rfl ?_
  refine zz_E.t (.int 0) 52 rfl rfl rfl ?_
  refine zz_E.n 53 rfl rfl rfl ?_
  refine zz_E.t (.int 1) 54 rfl rfl rfl ?_
  refine zz_E.n 55 rfl rfl rfl ?_
  refine zz_E.n 56 rfl rfl rfl ?_
  refine zz_E.n 57 rfl rfl rfl ?_
  refine zz_E.n 58 rfl rfl rfl ?_
  refine zz_E.cl (M' := zm_25) 61 rfl rfl (by decide) rfl rfl ⟨rfl, Nat.le_of_ble_eq_true rfl⟩ rfl ?_
  refine zz_E.n 1 rfl rfl rfl ?_
  refine zz_E.n 4 rfl rfl rfl ?_
  refine zz_E.n 5 rfl rfl rfl ?_
  refine zz_E.t (.int 2) 6 rfl rfl rfl ?_
  refine zz_E.n 7 rfl rfl rfl ?_
  refine zz_E.n 8 rfl rfl rfl ?_
  refine zz_E.n 9 rfl rfl rfl ?_
  refine zz_E.n 12 rfl rfl rfl ?_
  refine zz_E.n 13 rfl rfl rfl ?_
  refine zz_E.n 14 rfl rfl rfl ?_
  refine zz_E.n 15 rfl rfl rfl ?_
  refine zz_E.kt 38 rfl (by rfl) (by decide) rfl ?_
  refine zz_E.n 39 rfl rfl rfl ?_
  refine zz_E.n 42 rfl rfl rfl ?_
  refine zz_E.n 43 rfl rfl rfl ?_
  refine zz_E.n 44 rfl rfl rfl ?_
  refine zz_E.n 45 rfl rfl rfl ?_
  refine zz_E.n 46 rfl rfl rfl ?_
  refine zz_E.n 47 rfl rfl rfl ?_
  refine zz_E.n 48 rfl rfl rfl ?_
  refine zz_E.n 51 rfl rfl rfl ?_
  refine zz_E.n 52 rfl rfl rfl ?_
  refine zz_E.n 53 rfl rfl rfl ?_
  refine zz_E.n 54 rfl rfl rfl ?_
  refine zz_E.t (.int 3) 55 rfl rfl rfl ?_
  refine zz_E.n 56 rfl rfl rfl ?_
  refine zz_E.ret rfl rfl rfl ?_
  refine zz_E.n 62 rfl rfl rfl ?_
  refine zz_E.ret rfl rfl rfl ?_
  refine zz_E.jf 19 rfl (by rfl) (by decide) rfl ?_
  refine zz_E.n 20 rfl rfl rfl ?_
  refine zz_E.n 24 rfl rfl rfl ?_
  refine zz_E.ret rfl rfl rfl ?_
  refine zz_E.n 439 rfl rfl rfl ?_
  refine zz_E.n 440 rfl rfl rfl ?_
  refine zz_E.n 441 rfl rfl rfl ?_
  refine zz_E.n 442 rfl rfl rfl ?_
  refine zz_E.t (.int 1) 443 rfl rfl rfl ?_
  refine zz_E.t (.int 3) 444 rfl rfl rfl ?_
  refine zz_E.n 445 rfl rfl rfl ?_
  refine zz_E.n 446 rfl rfl rfl ?_
  refine zz_E.n 447 rfl rfl rfl ?_
  refine zz_E.t (.int 2) 448 rfl rfl rfl ?_
  refine zz_E.n 449 rfl rfl rfl ?_
  refine zz_E.cl (M' := zm_76) 452 rfl rfl (by decide) rfl rfl ⟨rfl, Nat.le_of_ble_eq_true rfl⟩ rfl ?_
  refine zz_E.n 1 rfl rfl rfl ?_
  refine zz_E.cl (M' := zm_73) 4 rfl rfl (by decide) rfl rfl ⟨rfl, Nat.le_of_ble_eq_true rfl⟩ rfl ?_
  refine zz_E.n 1 rfl rfl rfl ?_
  refine zz_E.jf 4 rfl (by rfl) (by decide) rfl ?_
  refine zz_E.n 5 rfl rfl rfl ?_
  refine zz_E.n 7 rfl rfl rfl ?_
  refine zz_E.kf 10 rfl (by rfl) (by decide) rfl ?_
  refine zz_E.n 11 rfl rfl rfl ?_
  refine zz_E.n 15 rfl rfl rfl ?_
  refine zz_E.ret rfl rfl rfl ?_
  refine zz_E.jt 9 rfl (by rfl) (by decide) rfl ?_
  refine zz_E.n 12 rfl rfl rfl ?_
  refine zz_E.n 13 rfl rfl rfl ?_
  refine zz_E.t (.int 7230) 14 rfl rfl rfl ?_
  refine zz_E.n 15 rfl rfl rfl ?_
  refine zz_E.n 16 rfl rfl rfl ?_
  refine zz_E.n 19 rfl rfl rfl ?_
  refine zz_E.n 20 rfl rfl rfl ?_
  refine zz_E.t (.int (-1)) 21 rfl rfl rfl ?_
  refine zz_E.n 22 rfl rfl rfl ?_
  refine zz_E.kf 25 rfl (by rfl) (by decide) rfl ?_
  refine zz_E.n 26 rfl rfl rfl ?_
  refine zz_E.n 29 rfl rfl rfl ?_
  refine zz_E.n 30 rfl rfl rfl ?_
  refine zz_E.n 31 rfl rfl rfl ?_
  refine zz_E.n 32 rfl rfl rfl ?_
  refine zz_E.n 33 rfl rfl rfl ?_
  refine zz_E.n 36 rfl rfl rfl ?_
  refine zz_E.n 37 rfl rfl rfl ?_
  refine zz_E.n 38 rfl rfl rfl ?_
  refine zz_E.t (.int 7231) 39 rfl rfl rfl ?_
  refine zz_E.n 40 rfl rfl rfl ?_
  refine zz_E.n 41 rfl rfl rfl ?_
  refine zz_E.n 42 rfl rfl rfl ?_
  refine zz_E.n 43 rfl rfl rfl ?_
  refine zz_E.cl (M' := zm_77) 46 rfl rfl (by decide) rfl rfl ⟨rfl, Nat.le_of_ble_eq_true rfl⟩ rfl ?_
  refine zz_E.n 1 rfl rfl rfl ?_
  refine zz_E.n 4 rfl rfl rfl ?_
  refine zz_E.n 5 rfl rfl rfl ?_
  refine zz_E.n 6 rfl rfl rfl ?_
  refine zz_E.t (.int 7231) 7 rfl rfl rfl ?_
  refine zz_E.t (.int 0) 8 rfl rfl rfl ?_
  refine zz_E.ret rfl rfl rfl ?_
  refine zz_E.n 48 rfl rfl rfl ?_
  refine zz_E.kt 53 rfl (by rfl) (by decide) rfl ?_
  refine zz_E.n 54 rfl rfl rfl ?_
  refine zz_E.n 57 rfl rfl rfl ?_
  refine zz_E.n 58 rfl rfl rfl ?_
  refine zz_E.n 59 rfl rfl rfl ?_
  refine zz_E.t (.int 7232) 60 rfl rfl rfl ?_
  refine zz_E.n 61 rfl rfl rfl ?_
  refine zz_E.n 62 rfl rfl rfl ?_
  refine zz_E.cl (M' := zm_77) 65 rfl rfl (by decide) rfl rfl ⟨rfl, Nat.le_of_ble_eq_true rfl⟩ rfl ?_
  refine zz_E.n 1 rfl rfl rfl ?_
  refine zz_E.n 4 rfl rfl rfl ?_
  refine zz_E.n 5 rfl rfl rfl ?_
  refine zz_E.n 6 rfl rfl rfl ?_
  refine zz_E.t (.int 7231) 7 rfl rfl rfl ?_
  refine zz_E.t (.int 0) 8 rfl rfl rfl ?_
  refine zz_E.ret rfl rfl rfl ?_
  refine zz_E.t (.int 7232) 66 rfl rfl rfl ?_
  refine zz_E.n 67 rfl rfl rfl ?_
  refine zz_E.n 68 rfl rfl rfl ?_
  refine zz_E.n 69 rfl rfl rfl ?_
  refine zz_E.n 72 rfl rfl rfl ?_
  refine zz_E.n 73 rfl rfl rfl ?_
  refine zz_E.n 74 rfl rfl rfl ?_
  refine zz_E.t (.int 7231) 75 rfl rfl rfl ?_
  refine zz_E.n 76 rfl rfl rfl ?_
  refine zz_E.t (.int 0) 77 rfl rfl rfl ?_
  refine zz_E.n 78 rfl rfl rfl ?_
  refine zz_E.t (.int 1) 79 rfl rfl rfl ?_
  refine zz_E.n 80 rfl rfl rfl ?_
  refine zz_E.n 81 rfl rfl rfl ?_
  refine zz_E.ret rfl rfl rfl ?_
  refine zz_E.kt 652 rfl (by rfl) (by decide) rfl ?_
  refine zz_E.n 655 rfl rfl rfl ?_
  refine zz_E.n 18 rfl rfl rfl ?_
  refine zz_E.n 19 rfl rfl rfl ?_
  refine zz_E.n 20 rfl rfl rfl ?_
  refine zz_E.n 21 rfl rfl rfl ?_
  refine zz_E.n 23 rfl rfl rfl ?_
  refine zz_E.t (.int 0) 24 rfl rfl rfl ?_
  refine zz_E.kt 658 rfl (by rfl) (by decide) rfl ?_
  refine zz_E.n 659 rfl rfl rfl ?_
  refine zz_E.ret rfl rfl rfl ?_
  refine ⟨rfl, by simp only [List.length_set]; exact zv_lnh, zv_sl0 ?_⟩
  repeat (first | refine zv_slA ?_ (by decide) | refine zv_slO ?_ (by decide))
  exact Nat.le_trans (Nat.add_le_add_right zv_slh _) (by decide)
set_option maxRecDepth 100000 in
set_option maxHeartbeats 8000000 in
theorem zv_k10_4 (xs : Nat → Int32) : zz_E zp_P zt_tf zt_fd (zt_X 6 (fun q => if q = 1 then nI 4 else xs q)) 1000 zm_law 33 zv_L [.int (nI 10)] zv_h zv_Q := by
  refine zz_E.n 424 rfl rfl rfl ?_
  refine zz_E.n 425 rfl rfl rfl ?_
  refine zz_E.n 426 rfl rfl rfl ?_
  refine zz_E.n 427 rfl rfl rfl ?_
  refine zz_E.n 428 rfl rfl rfl ?_
  refine zz_E.t (.int 1) 429 rfl rfl rfl ?_
  refine zz_E.t (.int 4) 430 rfl rfl rfl ?_
  refine zz_E.n 431 rfl rfl rfl ?_
  refine zz_E.n 432 rfl rfl rfl ?_
  refine zz_E.n 433 rfl rfl rfl ?_
  refine zz_E.t (.int 2) 434 rfl rfl rfl ?_
  refine zz_E.n 435 rfl rfl rfl ?_
  refine zz_E.cl (M' := zm_12) 438 rfl rfl (by decide) rfl rfl ⟨rfl, Nat.le_of_ble_eq_true rfl⟩ rfl ?_
  refine zz_E.n 1 rfl rfl rfl ?_
  refine zz_E.cl (M' := zm_21) 4 rfl rfl (by decide) rfl rfl ⟨rfl, Nat.le_of_ble_eq_true rfl⟩ rfl ?_
  refine zz_E.n 1 rfl rfl rfl ?_
  refine zz_E.jf 4 rfl (by rfl) (by decide) rfl ?_
  refine zz_E.n 5 rfl rfl rfl ?_
  refine zz_E.n 7 rfl rfl rfl ?_
  refine zz_E.kf 10 rfl (by rfl) (by decide) rfl ?_
  refine zz_E.n 11 rfl rfl rfl ?_
  refine zz_E.n 15 rfl rfl rfl ?_
  refine zz_E.ret rfl rfl rfl ?_
  refine zz_E.jf 7 rfl (by rfl) (by decide) rfl ?_
  refine zz_E.n 8 rfl rfl rfl ?_
  refine zz_E.n 11 rfl rfl rfl ?_
  refine zz_E.n 12 rfl rfl rfl ?_
  refine zz_E.n 13 rfl rfl rfl ?_
  refine zz_E.cl (M' := zm_26) 16 rfl rfl (by decide) rfl rfl ⟨rfl, Nat.le_of_ble_eq_true rfl⟩ rfl ?_
  refine zz_E.n 1 rfl rfl rfl ?_
  refine zz_E.n 2 rfl rfl rfl ?_
  refine zz_E.cl (M' := zm_23) 5 rfl rfl (by decide) rfl rfl ⟨rfl, Nat.le_of_ble_eq_true rfl⟩ rfl ?_
  refine zz_E.n 1 rfl rfl rfl ?_
  refine zz_E.n 4 rfl rfl rfl ?_
  refine zz_E.n 5 rfl rfl rfl ?_
  refine zz_E.t (.int 0) 6 rfl rfl rfl ?_
  refine zz_E.jf 9 rfl (by rfl) (by decide) rfl ?_
  refine zz_E.n 10 rfl rfl rfl ?_
  refine zz_E.n 21 rfl rfl rfl ?_
  refine zz_E.ret rfl rfl rfl ?_
  refine zz_E.n 6 rfl rfl rfl ?_
  refine zz_E.kf 9 rfl (by rfl) (by decide) rfl ?_
  refine zz_E.n 10 rfl rfl rfl ?_
  refine zz_E.n 13 rfl rfl rfl ?_
  refine zz_E.n 14 rfl rfl rfl ?_
  refine zz_E.n 15 rfl rfl rfl ?_
  refine zz_E.n 16 rfl rfl rfl ?_
  refine zz_E.n 17 rfl rfl rfl ?_
  refine zz_E.n 18 rfl rfl rfl ?_
  refine zz_E.n 19 rfl rfl rfl ?_
  refine zz_E.cl (M' := zm_25) 22 rfl rfl (by decide) rfl rfl ⟨rfl, Nat.le_of_ble_eq_true rfl⟩ rfl ?_
  refine zz_E.n 1 rfl rfl rfl ?_
  refine zz_E.n 4 rfl rfl rfl ?_
  refine zz_E.n 5 rfl rfl rfl ?_
  refine zz_E.t (.int 0) 6 rfl rfl rfl ?_
  refine zz_E.n 7 rfl rfl rfl ?_
  refine zz_E.n 8 rfl rfl rfl ?_
  refine zz_E.n 9 rfl rfl rfl ?_
  refine zz_E.n 12 rfl rfl rfl ?_
  refine zz_E.n 13 rfl rfl rfl ?_
  refine zz_E.n 14 rfl rfl rfl ?_
  refine zz_E.n 15 rfl rfl rfl ?_
  refine zz_E.kt 38 rfl (by rfl) (by decide) rfl ?_
  refine zz_E.n 39 rfl rfl rfl ?_
  refine zz_E.n 42 rfl rfl rfl ?_
  refine zz_E.n 43 rfl rfl rfl ?_
  refine zz_E.n 44 rfl rfl rfl ?_
  refine zz_E.n 45 rfl rfl rfl ?_
  refine zz_E.n 46 rfl rfl rfl ?_
  refine zz_E.n 47 rfl rfl rfl ?_
  refine zz_E.n 48 rfl rfl rfl ?_
  refine zz_E.n 51 rfl rfl rfl ?_
  refine zz_E.n 52 rfl rfl rfl ?_
  refine zz_E.n 53 rfl rfl rfl ?_
  refine zz_E.n 54 rfl rfl rfl ?_
  refine zz_E.t (.int 1) 55 rfl rfl rfl ?_
  refine zz_E.n 56 rfl rfl rfl ?_
  refine zz_E.ret rfl rfl rfl ?_
  refine zz_E.n 23 rfl rfl rfl ?_
  refine zz_E.n 24 rfl rfl rfl ?_
  refine zz_E.n 25 rfl rfl rfl ?_
  refine zz_E.cl (M' := zm_25) 28 rfl rfl (by decide) rfl rfl ⟨rfl, Nat.le_of_ble_eq_true rfl⟩ rfl ?_
  refine zz_E.n 1 rfl rfl rfl ?_
  refine zz_E.n 4 rfl rfl rfl ?_
  refine zz_E.n 5 rfl rfl rfl ?_
  refine zz_E.t (.int 1) 6 rfl rfl rfl ?_
  refine zz_E.n 7 rfl rfl rfl ?_
  refine zz_E.n 8 rfl rfl rfl ?_
  refine zz_E.n 9 rfl rfl rfl ?_
  refine zz_E.n 12 rfl rfl rfl ?_
  refine zz_E.n 13 rfl rfl rfl ?_
  refine zz_E.n 14 rfl rfl rfl ?_
  refine zz_E.n 15 rfl rfl rfl ?_
  refine zz_E.kt 38 rfl (by rfl) (by decide) rfl ?_
  refine zz_E.n 39 rfl rfl rfl ?_
  refine zz_E.n 42 rfl rfl rfl ?_
  refine zz_E.n 43 rfl rfl rfl ?_
  refine zz_E.n 44 rfl rfl rfl ?_
  refine zz_E.n 45 rfl rfl rfl ?_
  refine zz_E.n 46 rfl rfl rfl ?_
  refine zz_E.n 47 rfl rfl rfl ?_
  refine zz_E.n 48 rfl rfl rfl ?_
  refine zz_E.n 51 rfl rfl rfl ?_
  refine zz_E.n 52 rfl rfl rfl ?_
  refine zz_E.n 53 rfl rfl rfl ?_
  refine zz_E.n 54 rfl rfl rfl ?_
  refine zz_E.t (.int 2) 55 rfl rfl rfl ?_
  refine zz_E.n 56 rfl rfl rfl ?_
  refine zz_E.ret rfl rfl rfl ?_
  refine zz_E.n 29 rfl rfl rfl ?_
  refine zz_E.n 32 rfl rfl rfl ?_
  refine zz_E.n 33 rfl rfl rfl ?_
  refine zz_E.n 34 rfl rfl rfl ?_
  refine zz_E.n 35 rfl rfl rfl ?_
  refine zz_E.t (.int 0) 36 rfl rfl rfl ?_
  refine zz_E.n 38 rfl rfl rfl ?_
  refine zz_E.kt 43 rfl (by rfl) (by decide) rfl ?_
  refine zz_E.n 44 rfl rfl rfl ?_
  refine zz_E.n 47 rfl rfl rfl ?_
  refine zz_E.n 48 rfl rfl rfl ?_
  refine zz_E.n 49 rfl rfl rfl ?_
  refine zz_E.n 50 rfl rfl rfl ?_
  refine zz_E.n 51 rfl rfl rfl ?_
  refine zz_E.t (.int 0) 52 rfl rfl rfl ?_
  refine zz_E.n 53 rfl rfl rfl ?_
  refine zz_E.t (.int 1) 54 rfl rfl rfl ?_
  refine zz_E.n 55 rfl rfl rfl ?_
  refine zz_E.n 56 rfl rfl rfl ?_
  refine zz_E.n 57 rfl rfl rfl ?_
  refine zz_E.n 58 rfl rfl rfl ?_
  refine zz_E.cl (M' := zm_25) 61 rfl rfl (by decide) rfl rfl ⟨rfl, Nat.le_of_ble_eq_true rfl⟩ rfl ?_
  refine zz_E.n 1 rfl rfl rfl ?_
  refine zz_E.n 4 rfl rfl rfl ?_
  refine zz_E.n 5 rfl rfl rfl ?_
  refine zz_E.t (.int 2) 6 rfl rfl rfl ?_
  refine zz_E.n 7 rfl rfl rfl ?_
  refine zz_E.n 8 rfl rfl rfl ?_
  refine zz_E.n 9 rfl rfl rfl ?_
  refine zz_E.n 12 rfl rfl rfl ?_
  refine zz_E.n 13 rfl rfl rfl ?_
  refine zz_E.n 14 rfl rfl rfl ?_
  refine zz_E.n 15 rfl rfl rfl ?_
  refine zz_E.kt 38 rfl (by rfl) (by decide) rfl ?_
  refine zz_E.n 39 rfl rfl rfl ?_
  refine zz_E.n 42 rfl rfl rfl ?_
  refine zz_E.n 43 rfl rfl rfl ?_
  refine zz_E.n 44 rfl rfl rfl ?_
  refine zz_E.n 45 rfl rfl rfl ?_
  refine zz_E.n 46 rfl rfl rfl ?_
  refine zz_E.n 47 rfl rfl rfl ?_
  refine zz_E.n 48 rfl rfl rfl ?_
  refine zz_E.n 51 rfl rfl rfl ?_
  refine zz_E.n 52 rfl rfl rfl ?_
  refine zz_E.n 53 rfl rfl rfl ?_
  refine zz_E.n 54 rfl rfl rfl ?_
  refine zz_E.t (.int 3) 55 rfl rfl rfl ?_
  refine zz_E.n 56 rfl rfl rfl ?_
  refine zz_E.ret rfl rfl rfl ?_
  refine zz_E.n 62 rfl rfl rfl ?_
  refine zz_E.ret rfl rfl rfl ?_
  refine zz_E.jf 19 rfl (by rfl) (by decide) rfl ?_
  refine zz_E.n 20 rfl rfl rfl ?_
  refine zz_E.n 24 rfl rfl rfl ?_
  refine zz_E.ret rfl rfl rfl ?_
  refine zz_E.n 439 rfl rfl rfl ?_
  refine zz_E.n 440 rfl rfl rfl ?_
  refine zz_E.n 441 rfl rfl rfl ?_
  refine zz_E.n 442 rfl rfl rfl ?_
  refine zz_E.t (.int 1) 443 rfl rfl rfl ?_
  refine zz_E.t (.int 4) 444 rfl rfl rfl ?_
  refine zz_E.n 445 rfl rfl rfl ?_
  refine zz_E.n 446 rfl rfl rfl ?_
  refine zz_E.n 447 rfl rfl rfl ?_
  refine zz_E.t (.int 2) 448 rfl rfl rfl ?_
  refine zz_E.n 449 rfl rfl rfl ?_
  refine zz_E.cl (M' := zm_76) 452 rfl rfl (by decide) rfl rfl ⟨rfl, Nat.le_of_ble_eq_true rfl⟩ rfl ?_
  refine zz_E.n 1 rfl rfl rfl ?_
  refine zz_E.cl (M' := zm_73) 4 rfl rfl (by decide) rfl rfl ⟨rfl, Nat.le_of_ble_eq_true rfl⟩ rfl ?_
  refine zz_E.n 1 rfl rfl rfl ?_
  refine zz_E.jf 4 rfl (by rfl) (by decide) rfl ?_
  refine zz_E.n 5 rfl rfl rfl ?_
  refine zz_E.n 7 rfl rfl rfl ?_
  refine zz_E.kf 10 rfl (by rfl) (by decide) rfl ?_
  refine zz_E.n 11 rfl rfl rfl ?_
  refine zz_E.n 15 rfl rfl rfl ?_
  refine zz_E.ret rfl rfl rfl ?_
  refine zz_E.jt 9 rfl (by rfl) (by decide) rfl ?_
  refine zz_E.n 12 rfl rfl rfl ?_
  refine zz_E.n 13 rfl rfl rfl ?_
  refine zz_E.t (.int 9640) 14 rfl rfl rfl ?_
  refine zz_E.n 15 rfl rfl rfl ?_
  refine zz_E.n 16 rfl rfl rfl ?_
  refine zz_E.n 19 rfl rfl rfl ?_
  refine zz_E.n 20 rfl rfl rfl ?_
  refine zz_E.t (.int (-1)) 21 rfl rfl rfl ?_
  refine zz_E.n 22 rfl rfl rfl ?_
  refine zz_E.kf 25 rfl (by rfl) (by decide) rfl ?_
  refine zz_E.n 26 rfl rfl rfl ?_
  refine zz_E.n 29 rfl rfl rfl ?_
  refine zz_E.n 30 rfl rfl rfl ?_
  refine zz_E.n 31 rfl rfl rfl ?_
  refine zz_E.n 32 rfl rfl rfl ?_
  refine zz_E.n 33 rfl rfl rfl ?_
  refine zz_E.n 36 rfl rfl rfl ?_
  refine zz_E.n 37 rfl rfl rfl ?_
  refine zz_E.n 38 rfl rfl rfl ?_
  refine zz_E.t (.int 9641) 39 rfl rfl rfl ?_
  refine zz_E.n 40 rfl rfl rfl ?_
  refine zz_E.n 41 rfl rfl rfl ?_
  refine zz_E.n 42 rfl rfl rfl ?_
  refine zz_E.n 43 rfl rfl rfl ?_
  refine zz_E.cl (M' := zm_77) 46 rfl rfl (by decide) rfl rfl ⟨rfl, Nat.le_of_ble_eq_true rfl⟩ rfl ?_
  refine zz_E.n 1 rfl rfl rfl ?_
  refine zz_E.n 4 rfl rfl rfl ?_
  refine zz_E.n 5 rfl rfl rfl ?_
  refine zz_E.n 6 rfl rfl rfl ?_
  refine zz_E.t (.int 9641) 7 rfl rfl rfl ?_
  refine zz_E.t (.int 0) 8 rfl rfl rfl ?_
  refine zz_E.ret rfl rfl rfl ?_
  refine zz_E.n 48 rfl rfl rfl ?_
  refine zz_E.kt 53 rfl (by rfl) (by decide) rfl ?_
  refine zz_E.n 54 rfl rfl rfl ?_
  refine zz_E.n 57 rfl rfl rfl ?_
  refine zz_E.n 58 rfl rfl rfl ?_
  refine zz_E.n 59 rfl rfl rfl ?_
  refine zz_E.t (.int 9642) 60 rfl rfl rfl ?_
  refine zz_E.n 61 rfl rfl rfl ?_
  refine zz_E.n 62 rfl rfl rfl ?_
  refine zz_E.cl (M' := zm_77) 65 rfl rfl (by decide) rfl rfl ⟨rfl, Nat.le_of_ble_eq_true rfl⟩ rfl ?_
  refine zz_E.n 1 rfl rfl rfl ?_
  refine zz_E.n 4 rfl rfl rfl ?_
  refine zz_E.n 5 rfl rfl rfl ?_
  refine zz_E.n 6 rfl rfl rfl ?_
  refine zz_E.t (.int 9641) 7 rfl rfl rfl ?_
  refine zz_E.t (.int 0) 8 rfl rfl rfl ?_
  refine zz_E.ret rfl rfl rfl ?_
  refine zz_E.t (.int 9642) 66 rfl rfl rfl ?_
  refine zz_E.n 67 rfl rfl rfl ?_
  refine zz_E.n 68 rfl rfl rfl ?_
  refine zz_E.n 69 rfl rfl rfl ?_
  refine zz_E.n 72 rfl rfl rfl ?_
  refine zz_E.n 73 rfl rfl rfl ?_
  refine zz_E.n 74 rfl rfl rfl ?_
  refine zz_E.t (.int 9641) 75 rfl rfl rfl ?_
  refine zz_E.n 76 rfl rfl rfl ?_
  refine zz_E.t (.int 0) 77 rfl rfl rfl ?_
  refine zz_E.n 78 rfl rfl rfl ?_
  refine zz_E.t (.int 1) 79 rfl rfl rfl ?_
  refine zz_E.n 80 rfl rfl rfl ?_
  refine zz_E.n 81 rfl rfl rfl ?_
  refine zz_E.ret rfl rfl rfl ?_
  refine zz_E.kt 652 rfl (by rfl) (by decide) rfl ?_
  refine zz_E.n 655 rfl rfl rfl ?_
  refine zz_E.n 18 rfl rfl rfl ?_
  refine zz_E.n 19 rfl rfl rfl ?_
  refine zz_E.n 20 rfl rfl rfl ?_
  refine zz_E.n 21 rfl rfl rfl ?_
  refine zz_E.n 23 rfl rfl rfl ?_
  refine zz_E.t (.int 0) 24 rfl rfl rfl ?_
  refine zz_E.kt 658 rfl (by rfl) (by decide) rfl ?_
  refine zz_E.n 659 rfl rfl rfl ?_
  refine zz_E.ret rfl rfl rfl ?_
  refine ⟨rfl, by simp only [List.length_set]; exact zv_lnh, zv_sl0 ?_⟩
  repeat (first | refine zv_slA ?_ (by decide) | refine zv_slO ?_ (by decide))
  exact Nat.le_trans (Nat.add_le_add_right zv_slh _) (by decide)
set_option maxRecDepth 100000 in
set_option maxHeartbeats 8000000 in
theorem zv_k10_5 (xs : Nat → Int32) : zz_E zp_P zt_tf zt_fd (zt_X 6 (fun q => if q = 1 then nI 5 else xs q)) 1000 zm_law 33 zv_L [.int (nI 10)] zv_h zv_Q := by
  refine zz_E.n 424 rfl rfl rfl ?_
  refine zz_E.n 425 rfl rfl rfl ?_
  refine zz_E.n 426 rfl rfl rfl ?_
  refine zz_E.n 427 rfl rfl rfl ?_
  refine zz_E.n 428 rfl rfl rfl ?_
  refine zz_E.t (.int 1) 429 rfl rfl rfl ?_
  refine zz_E.t (.int 5) 430 rfl rfl rfl ?_
  refine zz_E.n 431 rfl rfl rfl ?_
  refine zz_E.n 432 rfl rfl rfl ?_
  refine zz_E.n 433 rfl rfl rfl ?_
  refine zz_E.t (.int 2) 434 rfl rfl rfl ?_
  refine zz_E.n 435 rfl rfl rfl ?_
  refine zz_E.cl (M' := zm_12) 438 rfl rfl (by decide) rfl rfl ⟨rfl, Nat.le_of_ble_eq_true rfl⟩ rfl ?_
  refine zz_E.n 1 rfl rfl rfl ?_
  refine zz_E.cl (M' := zm_21) 4 rfl rfl (by decide) rfl rfl ⟨rfl, Nat.le_of_ble_eq_true rfl⟩ rfl ?_
  refine zz_E.n 1 rfl rfl rfl ?_
  refine zz_E.jf 4 rfl (by rfl) (by decide) rfl ?_
  refine zz_E.n 5 rfl rfl rfl ?_
  refine zz_E.n 7 rfl rfl rfl ?_
  refine zz_E.kf 10 rfl (by rfl) (by decide) rfl ?_
  refine zz_E.n 11 rfl rfl rfl ?_
  refine zz_E.n 15 rfl rfl rfl ?_
  refine zz_E.ret rfl rfl rfl ?_
  refine zz_E.jf 7 rfl (by rfl) (by decide) rfl ?_
  refine zz_E.n 8 rfl rfl rfl ?_
  refine zz_E.n 11 rfl rfl rfl ?_
  refine zz_E.n 12 rfl rfl rfl ?_
  refine zz_E.n 13 rfl rfl rfl ?_
  refine zz_E.cl (M' := zm_26) 16 rfl rfl (by decide) rfl rfl ⟨rfl, Nat.le_of_ble_eq_true rfl⟩ rfl ?_
  refine zz_E.n 1 rfl rfl rfl ?_
  refine zz_E.n 2 rfl rfl rfl ?_
  refine zz_E.cl (M' := zm_23) 5 rfl rfl (by decide) rfl rfl ⟨rfl, Nat.le_of_ble_eq_true rfl⟩ rfl ?_
  refine zz_E.n 1 rfl rfl rfl ?_
  refine zz_E.n 4 rfl rfl rfl ?_
  refine zz_E.n 5 rfl rfl rfl ?_
  refine zz_E.t (.int 0) 6 rfl rfl rfl ?_
  refine zz_E.jf 9 rfl (by rfl) (by decide) rfl ?_
  refine zz_E.n 10 rfl rfl rfl ?_
  refine zz_E.n 21 rfl rfl rfl ?_
  refine zz_E.ret rfl rfl rfl ?_
  refine zz_E.n 6 rfl rfl rfl ?_
  refine zz_E.kf 9 rfl (by rfl) (by decide) rfl ?_
  refine zz_E.n 10 rfl rfl rfl ?_
  refine zz_E.n 13 rfl rfl rfl ?_
  refine zz_E.n 14 rfl rfl rfl ?_
  refine zz_E.n 15 rfl rfl rfl ?_
  refine zz_E.n 16 rfl rfl rfl ?_
  refine zz_E.n 17 rfl rfl rfl ?_
  refine zz_E.n 18 rfl rfl rfl ?_
  refine zz_E.n 19 rfl rfl rfl ?_
  refine zz_E.cl (M' := zm_25) 22 rfl rfl (by decide) rfl rfl ⟨rfl, Nat.le_of_ble_eq_true rfl⟩ rfl ?_
  refine zz_E.n 1 rfl rfl rfl ?_
  refine zz_E.n 4 rfl rfl rfl ?_
  refine zz_E.n 5 rfl rfl rfl ?_
  refine zz_E.t (.int 0) 6 rfl rfl rfl ?_
  refine zz_E.n 7 rfl rfl rfl ?_
  refine zz_E.n 8 rfl rfl rfl ?_
  refine zz_E.n 9 rfl rfl rfl ?_
  refine zz_E.n 12 rfl rfl rfl ?_
  refine zz_E.n 13 rfl rfl rfl ?_
  refine zz_E.n 14 rfl rfl rfl ?_
  refine zz_E.n 15 rfl rfl rfl ?_
  refine zz_E.kt 38 rfl (by rfl) (by decide) rfl ?_
  refine zz_E.n 39 rfl rfl rfl ?_
  refine zz_E.n 42 rfl rfl rfl ?_
  refine zz_E.n 43 rfl rfl rfl ?_
  refine zz_E.n 44 rfl rfl rfl ?_
  refine zz_E.n 45 rfl rfl rfl ?_
  refine zz_E.n 46 rfl rfl rfl ?_
  refine zz_E.n 47 rfl rfl rfl ?_
  refine zz_E.n 48 rfl rfl rfl ?_
  refine zz_E.n 51 rfl rfl rfl ?_
  refine zz_E.n 52 rfl rfl rfl ?_
  refine zz_E.n 53 rfl rfl rfl ?_
  refine zz_E.n 54 rfl rfl rfl ?_
  refine zz_E.t (.int 1) 55 rfl rfl rfl ?_
  refine zz_E.n 56 rfl rfl rfl ?_
  refine zz_E.ret rfl rfl rfl ?_
  refine zz_E.n 23 rfl rfl rfl ?_
  refine zz_E.n 24 rfl rfl rfl ?_
  refine zz_E.n 25 rfl rfl rfl ?_
  refine zz_E.cl (M' := zm_25) 28 rfl rfl (by decide) rfl rfl ⟨rfl, Nat.le_of_ble_eq_true rfl⟩ rfl ?_
  refine zz_E.n 1 rfl rfl rfl ?_
  refine zz_E.n 4 rfl rfl rfl ?_
  refine zz_E.n 5 rfl rfl rfl ?_
  refine zz_E.t (.int 1) 6 rfl rfl rfl ?_
  refine zz_E.n 7 rfl rfl rfl ?_
  refine zz_E.n 8 rfl rfl rfl ?_
  refine zz_E.n 9 rfl rfl rfl ?_
  refine zz_E.n 12 rfl rfl rfl ?_
  refine zz_E.n 13 rfl rfl rfl ?_
  refine zz_E.n 14 rfl rfl rfl ?_
  refine zz_E.n 15 rfl rfl rfl ?_
  refine zz_E.kt 38 rfl (by rfl) (by decide) rfl ?_
  refine zz_E.n 39 rfl rfl rfl ?_
  refine zz_E.n 42 rfl rfl rfl ?_
  refine zz_E.n 43 rfl rfl rfl ?_
  refine zz_E.n 44 rfl rfl rfl ?_
  refine zz_E.n 45 rfl rfl rfl ?_
  refine zz_E.n 46 rfl rfl rfl ?_
  refine zz_E.n 47 rfl rfl rfl ?_
  refine zz_E.n 48 rfl rfl rfl ?_
  refine zz_E.n 51 rfl rfl rfl ?_
  refine zz_E.n 52 rfl rfl rfl ?_
  refine zz_E.n 53 rfl rfl rfl ?_
  refine zz_E.n 54 rfl rfl rfl ?_
  refine zz_E.t (.int 2) 55 rfl rfl rfl ?_
  refine zz_E.n 56 rfl rfl rfl ?_
  refine zz_E.ret rfl rfl rfl ?_
  refine zz_E.n 29 rfl rfl rfl ?_
  refine zz_E.n 32 rfl rfl rfl ?_
  refine zz_E.n 33 rfl rfl rfl ?_
  refine zz_E.n 34 rfl rfl rfl ?_
  refine zz_E.n 35 rfl rfl rfl ?_
  refine zz_E.t (.int 0) 36 rfl rfl rfl ?_
  refine zz_E.n 38 rfl rfl rfl ?_
  refine zz_E.kt 43 rfl (by rfl) (by decide) rfl ?_
  refine zz_E.n 44 rfl rfl rfl ?_
  refine zz_E.n 47 rfl rfl rfl ?_
  refine zz_E.n 48 rfl rfl rfl ?_
  refine zz_E.n 49 rfl rfl rfl ?_
  refine zz_E.n 50 rfl rfl rfl ?_
  refine zz_E.n 51 rfl rfl rfl ?_
  refine zz_E.t (.int 0) 52 rfl rfl rfl ?_
  refine zz_E.n 53 rfl rfl rfl ?_
  refine zz_E.t (.int 1) 54 rfl rfl rfl ?_
  refine zz_E.n 55 rfl rfl rfl ?_
  refine zz_E.n 56 rfl rfl rfl ?_
  refine zz_E.n 57 rfl rfl rfl ?_
  refine zz_E.n 58 rfl rfl rfl ?_
  refine zz_E.cl (M' := zm_25) 61 rfl rfl (by decide) rfl rfl ⟨rfl, Nat.le_of_ble_eq_true rfl⟩ rfl ?_
  refine zz_E.n 1 rfl rfl rfl ?_
  refine zz_E.n 4 rfl rfl rfl ?_
  refine zz_E.n 5 rfl rfl rfl ?_
  refine zz_E.t (.int 2) 6 rfl rfl rfl ?_
  refine zz_E.n 7 rfl rfl rfl ?_
  refine zz_E.n 8 rfl rfl rfl ?_
  refine zz_E.n 9 rfl rfl rfl ?_
  refine zz_E.n 12 rfl rfl rfl ?_
  refine zz_E.n 13 rfl rfl rfl ?_
  refine zz_E.n 14 rfl rfl rfl ?_
  refine zz_E.n 15 rfl rfl rfl ?_
  refine zz_E.kt 38 rfl (by rfl) (by decide) rfl ?_
  refine zz_E.n 39 rfl rfl rfl ?_
  refine zz_E.n 42 rfl rfl rfl ?_
  refine zz_E.n 43 rfl rfl rfl ?_
  refine zz_E.n 44 rfl rfl rfl ?_
  refine zz_E.n 45 rfl rfl rfl ?_
  refine zz_E.n 46 rfl rfl rfl ?_
  refine zz_E.n 47 rfl rfl rfl ?_
  refine zz_E.n 48 rfl rfl rfl ?_
  refine zz_E.n 51 rfl rfl rfl ?_
  refine zz_E.n 52 rfl rfl rfl ?_
  refine zz_E.n 53 rfl rfl rfl ?_
  refine zz_E.n 54 rfl rfl rfl ?_
  refine zz_E.t (.int 3) 55 rfl rfl rfl ?_
  refine zz_E.n 56 rfl rfl rfl ?_
  refine zz_E.ret rfl rfl rfl ?_
  refine zz_E.n 62 rfl rfl rfl ?_
  refine zz_E.ret rfl rfl rfl ?_
  refine zz_E.jf 19 rfl (by rfl) (by decide) rfl ?_
  refine zz_E.n 20 rfl rfl rfl ?_
  refine zz_E.n 24 rfl rfl rfl ?_
  refine zz_E.ret rfl rfl rfl ?_
  refine zz_E.n 439 rfl rfl rfl ?_
  refine zz_E.n 440 rfl rfl rfl ?_
  refine zz_E.n 441 rfl rfl rfl ?_
  refine zz_E.n 442 rfl rfl rfl ?_
  refine zz_E.t (.int 1) 443 rfl rfl rfl ?_
  refine zz_E.t (.int 5) 444 rfl rfl rfl ?_
  refine zz_E.n 445 rfl rfl rfl ?_
  refine zz_E.n 446 rfl rfl rfl ?_
  refine zz_E.n 447 rfl rfl rfl ?_
  refine zz_E.t (.int 2) 448 rfl rfl rfl ?_
  refine zz_E.n 449 rfl rfl rfl ?_
  refine zz_E.cl (M' := zm_76) 452 rfl rfl (by decide) rfl rfl ⟨rfl, Nat.le_of_ble_eq_true rfl⟩ rfl ?_
  refine zz_E.n 1 rfl rfl rfl ?_
  refine zz_E.cl (M' := zm_73) 4 rfl rfl (by decide) rfl rfl ⟨rfl, Nat.le_of_ble_eq_true rfl⟩ rfl ?_
  refine zz_E.n 1 rfl rfl rfl ?_
  refine zz_E.jf 4 rfl (by rfl) (by decide) rfl ?_
  refine zz_E.n 5 rfl rfl rfl ?_
  refine zz_E.n 7 rfl rfl rfl ?_
  refine zz_E.kf 10 rfl (by rfl) (by decide) rfl ?_
  refine zz_E.n 11 rfl rfl rfl ?_
  refine zz_E.n 15 rfl rfl rfl ?_
  refine zz_E.ret rfl rfl rfl ?_
  refine zz_E.jt 9 rfl (by rfl) (by decide) rfl ?_
  refine zz_E.n 12 rfl rfl rfl ?_
  refine zz_E.n 13 rfl rfl rfl ?_
  refine zz_E.t (.int 12050) 14 rfl rfl rfl ?_
  refine zz_E.n 15 rfl rfl rfl ?_
  refine zz_E.n 16 rfl rfl rfl ?_
  refine zz_E.n 19 rfl rfl rfl ?_
  refine zz_E.n 20 rfl rfl rfl ?_
  refine zz_E.t (.int (-1)) 21 rfl rfl rfl ?_
  refine zz_E.n 22 rfl rfl rfl ?_
  refine zz_E.kf 25 rfl (by rfl) (by decide) rfl ?_
  refine zz_E.n 26 rfl rfl rfl ?_
  refine zz_E.n 29 rfl rfl rfl ?_
  refine zz_E.n 30 rfl rfl rfl ?_
  refine zz_E.n 31 rfl rfl rfl ?_
  refine zz_E.n 32 rfl rfl rfl ?_
  refine zz_E.n 33 rfl rfl rfl ?_
  refine zz_E.n 36 rfl rfl rfl ?_
  refine zz_E.n 37 rfl rfl rfl ?_
  refine zz_E.n 38 rfl rfl rfl ?_
  refine zz_E.t (.int 12051) 39 rfl rfl rfl ?_
  refine zz_E.n 40 rfl rfl rfl ?_
  refine zz_E.n 41 rfl rfl rfl ?_
  refine zz_E.n 42 rfl rfl rfl ?_
  refine zz_E.n 43 rfl rfl rfl ?_
  refine zz_E.cl (M' := zm_77) 46 rfl rfl (by decide) rfl rfl ⟨rfl, Nat.le_of_ble_eq_true rfl⟩ rfl ?_
  refine zz_E.n 1 rfl rfl rfl ?_
  refine zz_E.n 4 rfl rfl rfl ?_
  refine zz_E.n 5 rfl rfl rfl ?_
  refine zz_E.n 6 rfl rfl rfl ?_
  refine zz_E.t (.int 12051) 7 rfl rfl rfl ?_
  refine zz_E.t (.int 0) 8 rfl rfl rfl ?_
  refine zz_E.ret rfl rfl rfl ?_
  refine zz_E.n 48 rfl rfl rfl ?_
  refine zz_E.kt 53 rfl (by rfl) (by decide) rfl ?_
  refine zz_E.n 54 rfl rfl rfl ?_
  refine zz_E.n 57 rfl rfl rfl ?_
  refine zz_E.n 58 rfl rfl rfl ?_
  refine zz_E.n 59 rfl rfl rfl ?_
  refine zz_E.t (.int 12052) 60 rfl rfl rfl ?_
  refine zz_E.n 61 rfl rfl rfl ?_
  refine zz_E.n 62 rfl rfl rfl ?_
  refine zz_E.cl (M' := zm_77) 65 rfl rfl (by decide) rfl rfl ⟨rfl, Nat.le_of_ble_eq_true rfl⟩ rfl ?_
  refine zz_E.n 1 rfl rfl rfl ?_
  refine zz_E.n 4 rfl rfl rfl ?_
  refine zz_E.n 5 rfl rfl rfl ?_
  refine zz_E.n 6 rfl rfl rfl ?_
  refine zz_E.t (.int 12051) 7 rfl rfl rfl ?_
  refine zz_E.t (.int 0) 8 rfl rfl rfl ?_
  refine zz_E.ret rfl rfl rfl ?_
  refine zz_E.t (.int 12052) 66 rfl rfl rfl ?_
  refine zz_E.n 67 rfl rfl rfl ?_
  refine zz_E.n 68 rfl rfl rfl ?_
  refine zz_E.n 69 rfl rfl rfl ?_
  refine zz_E.n 72 rfl rfl rfl ?_
  refine zz_E.n 73 rfl rfl rfl ?_
  refine zz_E.n 74 rfl rfl rfl ?_
  refine zz_E.t (.int 12051) 75 rfl rfl rfl ?_
  refine zz_E.n 76 rfl rfl rfl ?_
  refine zz_E.t (.int 0) 77 rfl rfl rfl ?_
  refine zz_E.n 78 rfl rfl rfl ?_
  refine zz_E.t (.int 1) 79 rfl rfl rfl ?_
  refine zz_E.n 80 rfl rfl rfl ?_
  refine zz_E.n 81 rfl rfl rfl ?_
  refine zz_E.ret rfl rfl rfl ?_
  refine zz_E.kt 652 rfl (by rfl) (by decide) rfl ?_
  refine zz_E.n 655 rfl rfl rfl ?_
  refine zz_E.n 18 rfl rfl rfl ?_
  refine zz_E.n 19 rfl rfl rfl ?_
  refine zz_E.n 20 rfl rfl rfl ?_
  refine zz_E.n 21 rfl rfl rfl ?_
  refine zz_E.n 23 rfl rfl rfl ?_
  refine zz_E.t (.int 0) 24 rfl rfl rfl ?_
  refine zz_E.kt 658 rfl (by rfl) (by decide) rfl ?_
  refine zz_E.n 659 rfl rfl rfl ?_
  refine zz_E.ret rfl rfl rfl ?_
  refine ⟨rfl, by simp only [List.length_set]; exact zv_lnh, zv_sl0 ?_⟩
  repeat (first | refine zv_slA ?_ (by decide) | refine zv_slO ?_ (by decide))
  exact Nat.le_trans (Nat.add_le_add_right zv_slh _) (by decide)
set_option maxRecDepth 100000 in
set_option maxHeartbeats 8000000 in
theorem zv_k10_6 (xs : Nat → Int32) : zz_E zp_P zt_tf zt_fd (zt_X 6 (fun q => if q = 1 then nI 6 else xs q)) 1000 zm_law 33 zv_L [.int (nI 10)] zv_h zv_Q := by
  refine zz_E.n 424 rfl rfl rfl ?_
  refine zz_E.n 425 rfl rfl rfl ?_
  refine zz_E.n 426 rfl rfl rfl ?_
  refine zz_E.n 427 rfl rfl rfl ?_
  refine zz_E.n 428 rfl rfl rfl ?_
  refine zz_E.t (.int 1) 429 rfl rfl rfl ?_
  refine zz_E.t (.int 6) 430 rfl rfl rfl ?_
  refine zz_E.n 431 rfl rfl rfl ?_
  refine zz_E.n 432 rfl rfl rfl ?_
  refine zz_E.n 433 rfl rfl rfl ?_
  refine zz_E.t (.int 2) 434 rfl rfl rfl ?_
  refine zz_E.n 435 rfl rfl rfl ?_
  refine zz_E.cl (M' := zm_12) 438 rfl rfl (by decide) rfl rfl ⟨rfl, Nat.le_of_ble_eq_true rfl⟩ rfl ?_
  refine zz_E.n 1 rfl rfl rfl ?_
  refine zz_E.cl (M' := zm_21) 4 rfl rfl (by decide) rfl rfl ⟨rfl, Nat.le_of_ble_eq_true rfl⟩ rfl ?_
  refine zz_E.n 1 rfl rfl rfl ?_
  refine zz_E.jf 4 rfl (by rfl) (by decide) rfl ?_
  refine zz_E.n 5 rfl rfl rfl ?_
  refine zz_E.n 7 rfl rfl rfl ?_
  refine zz_E.kf 10 rfl (by rfl) (by decide) rfl ?_
  refine zz_E.n 11 rfl rfl rfl ?_
  refine zz_E.n 15 rfl rfl rfl ?_
  refine zz_E.ret rfl rfl rfl ?_
  refine zz_E.jf 7 rfl (by rfl) (by decide) rfl ?_
  refine zz_E.n 8 rfl rfl rfl ?_
  refine zz_E.n 11 rfl rfl rfl ?_
  refine zz_E.n 12 rfl rfl rfl ?_
  refine zz_E.n 13 rfl rfl rfl ?_
  refine zz_E.cl (M' := zm_26) 16 rfl rfl (by decide) rfl rfl ⟨rfl, Nat.le_of_ble_eq_true rfl⟩ rfl ?_
  refine zz_E.n 1 rfl rfl rfl ?_
  refine zz_E.n 2 rfl rfl rfl ?_
  refine zz_E.cl (M' := zm_23) 5 rfl rfl (by decide) rfl rfl ⟨rfl, Nat.le_of_ble_eq_true rfl⟩ rfl ?_
  refine zz_E.n 1 rfl rfl rfl ?_
  refine zz_E.n 4 rfl rfl rfl ?_
  refine zz_E.n 5 rfl rfl rfl ?_
  refine zz_E.t (.int 0) 6 rfl rfl rfl ?_
  refine zz_E.jf 9 rfl (by rfl) (by decide) rfl ?_
  refine zz_E.n 10 rfl rfl rfl ?_
  refine zz_E.n 21 rfl rfl rfl ?_
  refine zz_E.ret rfl rfl rfl ?_
  refine zz_E.n 6 rfl rfl rfl ?_
  refine zz_E.kf 9 rfl (by rfl) (by decide) rfl ?_
  refine zz_E.n 10 rfl rfl rfl ?_
  refine zz_E.n 13 rfl rfl rfl ?_
  refine zz_E.n 14 rfl rfl rfl ?_
  refine zz_E.n 15 rfl rfl rfl ?_
  refine zz_E.n 16 rfl rfl rfl ?_
  refine zz_E.n 17 rfl rfl rfl ?_
  refine zz_E.n 18 rfl rfl rfl ?_
  refine zz_E.n 19 rfl rfl rfl ?_
  refine zz_E.cl (M' := zm_25) 22 rfl rfl (by decide) rfl rfl ⟨rfl, Nat.le_of_ble_eq_true rfl⟩ rfl ?_
  refine zz_E.n 1 rfl rfl rfl ?_
  refine zz_E.n 4 rfl rfl rfl ?_
  refine zz_E.n 5 rfl rfl rfl ?_
  refine zz_E.t (.int 0) 6 rfl rfl rfl ?_
  refine zz_E.n 7 rfl rfl rfl ?_
  refine zz_E.n 8 rfl rfl rfl ?_
  refine zz_E.n 9 rfl rfl rfl ?_
  refine zz_E.n 12 rfl rfl rfl ?_
  refine zz_E.n 13 rfl rfl rfl ?_
  refine zz_E.n 14 rfl rfl rfl ?_
  refine zz_E.n 15 rfl rfl rfl ?_
  refine zz_E.kt 38 rfl (by rfl) (by decide) rfl ?_
  refine zz_E.n 39 rfl rfl rfl ?_
  refine zz_E.n 42 rfl rfl rfl ?_
  refine zz_E.n 43 rfl rfl rfl ?_
  refine zz_E.n 44 rfl rfl rfl ?_
  refine zz_E.n 45 rfl rfl rfl ?_
  refine zz_E.n 46 rfl rfl rfl ?_
  refine zz_E.n 47 rfl rfl rfl ?_
  refine zz_E.n 48 rfl rfl rfl ?_
  refine zz_E.n 51 rfl rfl rfl ?_
  refine zz_E.n 52 rfl rfl rfl ?_
  refine zz_E.n 53 rfl rfl rfl ?_
  refine zz_E.n 54 rfl rfl rfl ?_
  refine zz_E.t (.int 1) 55 rfl rfl rfl ?_
  refine zz_E.n 56 rfl rfl rfl ?_
  refine zz_E.ret rfl rfl rfl ?_
  refine zz_E.n 23 rfl rfl rfl ?_
  refine zz_E.n 24 rfl rfl rfl ?_
  refine zz_E.n 25 rfl rfl rfl ?_
  refine zz_E.cl (M' := zm_25) 28 rfl rfl (by decide) rfl rfl ⟨rfl, Nat.le_of_ble_eq_true rfl⟩ rfl ?_
  refine zz_E.n 1 rfl rfl rfl ?_
  refine zz_E.n 4 rfl rfl rfl ?_
  refine zz_E.n 5 rfl rfl rfl ?_
  refine zz_E.t (.int 1) 6 rfl rfl rfl ?_
  refine zz_E.n 7 rfl rfl rfl ?_
  refine zz_E.n 8 rfl rfl rfl ?_
  refine zz_E.n 9 rfl rfl rfl ?_
  refine zz_E.n 12 rfl rfl rfl ?_
  refine zz_E.n 13 rfl rfl rfl ?_
  refine zz_E.n 14 rfl rfl rfl ?_
  refine zz_E.n 15 rfl rfl rfl ?_
  refine zz_E.kt 38 rfl (by rfl) (by decide) rfl ?_
  refine zz_E.n 39 rfl rfl rfl ?_
  refine zz_E.n 42 rfl rfl rfl ?_
  refine zz_E.n 43 rfl rfl rfl ?_
  refine zz_E.n 44 rfl rfl rfl ?_
  refine zz_E.n 45 rfl rfl rfl ?_
  refine zz_E.n 46 rfl rfl rfl ?_
  refine zz_E.n 47 rfl rfl rfl ?_
  refine zz_E.n 48 rfl rfl rfl ?_
  refine zz_E.n 51 rfl rfl rfl ?_
  refine zz_E.n 52 rfl rfl rfl ?_
  refine zz_E.n 53 rfl rfl rfl ?_
  refine zz_E.n 54 rfl rfl rfl ?_
  refine zz_E.t (.int 2) 55 rfl rfl rfl ?_
  refine zz_E.n 56 rfl rfl rfl ?_
  refine zz_E.ret rfl rfl rfl ?_
  refine zz_E.n 29 rfl rfl rfl ?_
  refine zz_E.n 32 rfl rfl rfl ?_
  refine zz_E.n 33 rfl rfl rfl ?_
  refine zz_E.n 34 rfl rfl rfl ?_
  refine zz_E.n 35 rfl rfl rfl ?_
  refine zz_E.t (.int 0) 36 rfl rfl rfl ?_
  refine zz_E.n 38 rfl rfl rfl ?_
  refine zz_E.kt 43 rfl (by rfl) (by decide) rfl ?_
  refine zz_E.n 44 rfl rfl rfl ?_
  refine zz_E.n 47 rfl rfl rfl ?_
  refine zz_E.n 48 rfl rfl rfl ?_
  refine zz_E.n 49 rfl rfl rfl ?_
  refine zz_E.n 50 rfl rfl rfl ?_
  refine zz_E.n 51 rfl rfl rfl ?_
  refine zz_E.t (.int 0) 52 rfl rfl rfl ?_
  refine zz_E.n 53 rfl rfl rfl ?_
  refine zz_E.t (.int 1) 54 rfl rfl rfl ?_
  refine zz_E.n 55 rfl rfl rfl ?_
  refine zz_E.n 56 rfl rfl rfl ?_
  refine zz_E.n 57 rfl rfl rfl ?_
  refine zz_E.n 58 rfl rfl rfl ?_
  refine zz_E.cl (M' := zm_25) 61 rfl rfl (by decide) rfl rfl ⟨rfl, Nat.le_of_ble_eq_true rfl⟩ rfl ?_
  refine zz_E.n 1 rfl rfl rfl ?_
  refine zz_E.n 4 rfl rfl rfl ?_
  refine zz_E.n 5 rfl rfl rfl ?_
  refine zz_E.t (.int 2) 6 rfl rfl rfl ?_
  refine zz_E.n 7 rfl rfl rfl ?_
  refine zz_E.n 8 rfl rfl rfl ?_
  refine zz_E.n 9 rfl rfl rfl ?_
  refine zz_E.n 12 rfl rfl rfl ?_
  refine zz_E.n 13 rfl rfl rfl ?_
  refine zz_E.n 14 rfl rfl rfl ?_
  refine zz_E.n 15 rfl rfl rfl ?_
  refine zz_E.kt 38 rfl (by rfl) (by decide) rfl ?_
  refine zz_E.n 39 rfl rfl rfl ?_
  refine zz_E.n 42 rfl rfl rfl ?_
  refine zz_E.n 43 rfl rfl rfl ?_
  refine zz_E.n 44 rfl rfl rfl ?_
  refine zz_E.n 45 rfl rfl rfl ?_
  refine zz_E.n 46 rfl rfl rfl ?_
  refine zz_E.n 47 rfl rfl rfl ?_
  refine zz_E.n 48 rfl rfl rfl ?_
  refine zz_E.n 51 rfl rfl rfl ?_
  refine zz_E.n 52 rfl rfl rfl ?_
  refine zz_E.n 53 rfl rfl rfl ?_
  refine zz_E.n 54 rfl rfl rfl ?_
  refine zz_E.t (.int 3) 55 rfl rfl rfl ?_
  refine zz_E.n 56 rfl rfl rfl ?_
  refine zz_E.ret rfl rfl rfl ?_
  refine zz_E.n 62 rfl rfl rfl ?_
  refine zz_E.ret rfl rfl rfl ?_
  refine zz_E.jf 19 rfl (by rfl) (by decide) rfl ?_
  refine zz_E.n 20 rfl rfl rfl ?_
  refine zz_E.n 24 rfl rfl rfl ?_
  refine zz_E.ret rfl rfl rfl ?_
  refine zz_E.n 439 rfl rfl rfl ?_
  refine zz_E.n 440 rfl rfl rfl ?_
  refine zz_E.n 441 rfl rfl rfl ?_
  refine zz_E.n 442 rfl rfl rfl ?_
  refine zz_E.t (.int 1) 443 rfl rfl rfl ?_
  refine zz_E.t (.int 6) 444 rfl rfl rfl ?_
  refine zz_E.n 445 rfl rfl rfl ?_
  refine zz_E.n 446 rfl rfl rfl ?_
  refine zz_E.n 447 rfl rfl rfl ?_
  refine zz_E.t (.int 2) 448 rfl rfl rfl ?_
  refine zz_E.n 449 rfl rfl rfl ?_
  refine zz_E.cl (M' := zm_76) 452 rfl rfl (by decide) rfl rfl ⟨rfl, Nat.le_of_ble_eq_true rfl⟩ rfl ?_
  refine zz_E.n 1 rfl rfl rfl ?_
  refine zz_E.cl (M' := zm_73) 4 rfl rfl (by decide) rfl rfl ⟨rfl, Nat.le_of_ble_eq_true rfl⟩ rfl ?_
  refine zz_E.n 1 rfl rfl rfl ?_
  refine zz_E.jf 4 rfl (by rfl) (by decide) rfl ?_
  refine zz_E.n 5 rfl rfl rfl ?_
  refine zz_E.n 7 rfl rfl rfl ?_
  refine zz_E.kf 10 rfl (by rfl) (by decide) rfl ?_
  refine zz_E.n 11 rfl rfl rfl ?_
  refine zz_E.n 15 rfl rfl rfl ?_
  refine zz_E.ret rfl rfl rfl ?_
  refine zz_E.jt 9 rfl (by rfl) (by decide) rfl ?_
  refine zz_E.n 12 rfl rfl rfl ?_
  refine zz_E.n 13 rfl rfl rfl ?_
  refine zz_E.t (.int 14460) 14 rfl rfl rfl ?_
  refine zz_E.n 15 rfl rfl rfl ?_
  refine zz_E.n 16 rfl rfl rfl ?_
  refine zz_E.n 19 rfl rfl rfl ?_
  refine zz_E.n 20 rfl rfl rfl ?_
  refine zz_E.t (.int (-1)) 21 rfl rfl rfl ?_
  refine zz_E.n 22 rfl rfl rfl ?_
  refine zz_E.kf 25 rfl (by rfl) (by decide) rfl ?_
  refine zz_E.n 26 rfl rfl rfl ?_
  refine zz_E.n 29 rfl rfl rfl ?_
  refine zz_E.n 30 rfl rfl rfl ?_
  refine zz_E.n 31 rfl rfl rfl ?_
  refine zz_E.n 32 rfl rfl rfl ?_
  refine zz_E.n 33 rfl rfl rfl ?_
  refine zz_E.n 36 rfl rfl rfl ?_
  refine zz_E.n 37 rfl rfl rfl ?_
  refine zz_E.n 38 rfl rfl rfl ?_
  refine zz_E.t (.int 14461) 39 rfl rfl rfl ?_
  refine zz_E.n 40 rfl rfl rfl ?_
  refine zz_E.n 41 rfl rfl rfl ?_
  refine zz_E.n 42 rfl rfl rfl ?_
  refine zz_E.n 43 rfl rfl rfl ?_
  refine zz_E.cl (M' := zm_77) 46 rfl rfl (by decide) rfl rfl ⟨rfl, Nat.le_of_ble_eq_true rfl⟩ rfl ?_
  refine zz_E.n 1 rfl rfl rfl ?_
  refine zz_E.n 4 rfl rfl rfl ?_
  refine zz_E.n 5 rfl rfl rfl ?_
  refine zz_E.n 6 rfl rfl rfl ?_
  refine zz_E.t (.int 14461) 7 rfl rfl rfl ?_
  refine zz_E.t (.int 0) 8 rfl rfl rfl ?_
  refine zz_E.ret rfl rfl rfl ?_
  refine zz_E.n 48 rfl rfl rfl ?_
  refine zz_E.kt 53 rfl (by rfl) (by decide) rfl ?_
  refine zz_E.n 54 rfl rfl rfl ?_
  refine zz_E.n 57 rfl rfl rfl ?_
  refine zz_E.n 58 rfl rfl rfl ?_
  refine zz_E.n 59 rfl rfl rfl ?_
  refine zz_E.t (.int 14462) 60 rfl rfl rfl ?_
  refine zz_E.n 61 rfl rfl rfl ?_
  refine zz_E.n 62 rfl rfl rfl ?_
  refine zz_E.cl (M' := zm_77) 65 rfl rfl (by decide) rfl rfl ⟨rfl, Nat.le_of_ble_eq_true rfl⟩ rfl ?_
  refine zz_E.n 1 rfl rfl rfl ?_
  refine zz_E.n 4 rfl rfl rfl ?_
  refine zz_E.n 5 rfl rfl rfl ?_
  refine zz_E.n 6 rfl rfl rfl ?_
  refine zz_E.t (.int 14461) 7 rfl rfl rfl ?_
  refine zz_E.t (.int 0) 8 rfl rfl rfl ?_
  refine zz_E.ret rfl rfl rfl ?_
  refine zz_E.t (.int 14462) 66 rfl rfl rfl ?_
  refine zz_E.n 67 rfl rfl rfl ?_
  refine zz_E.n 68 rfl rfl rfl ?_
  refine zz_E.n 69 rfl rfl rfl ?_
  refine zz_E.n 72 rfl rfl rfl ?_
  refine zz_E.n 73 rfl rfl rfl ?_
  refine zz_E.n 74 rfl rfl rfl ?_
  refine zz_E.t (.int 14461) 75 rfl rfl rfl ?_
  refine zz_E.n 76 rfl rfl rfl ?_
  refine zz_E.t (.int 0) 77 rfl rfl rfl ?_
  refine zz_E.n 78 rfl rfl rfl ?_
  refine zz_E.t (.int 1) 79 rfl rfl rfl ?_
  refine zz_E.n 80 rfl rfl rfl ?_
  refine zz_E.n 81 rfl rfl rfl ?_
  refine zz_E.ret rfl rfl rfl ?_
  refine zz_E.kt 652 rfl (by rfl) (by decide) rfl ?_
  refine zz_E.n 655 rfl rfl rfl ?_
  refine zz_E.n 18 rfl rfl rfl ?_
  refine zz_E.n 19 rfl rfl rfl ?_
  refine zz_E.n 20 rfl rfl rfl ?_
  refine zz_E.n 21 rfl rfl rfl ?_
  refine zz_E.n 23 rfl rfl rfl ?_
  refine zz_E.t (.int 0) 24 rfl rfl rfl ?_
  refine zz_E.kt 658 rfl (by rfl) (by decide) rfl ?_
  refine zz_E.n 659 rfl rfl rfl ?_
  refine zz_E.ret rfl rfl rfl ?_
  refine ⟨rfl, by simp only [List.length_set]; exact zv_lnh, zv_sl0 ?_⟩
  repeat (first | refine zv_slA ?_ (by decide) | refine zv_slO ?_ (by decide))
  exact Nat.le_trans (Nat.add_le_add_right zv_slh _) (by decide)
set_option maxRecDepth 100000 in
set_option maxHeartbeats 8000000 in
theorem zv_k10_7 (xs : Nat → Int32) : zz_E zp_P zt_tf zt_fd (zt_X 6 (fun q => if q = 1 then nI 7 else xs q)) 1000 zm_law 33 zv_L [.int (nI 10)] zv_h zv_Q := by
  refine zz_E.n 424 rfl rfl rfl ?_
  refine zz_E.n 425 rfl rfl rfl ?_
  refine zz_E.n 426 rfl rfl rfl ?_
  refine zz_E.n 427 rfl rfl rfl ?_
  refine zz_E.n 428 rfl rfl rfl ?_
  refine zz_E.t (.int 1) 429 rfl rfl rfl ?_
  refine zz_E.t (.int 7) 430 rfl rfl rfl ?_
  refine zz_E.n 431 rfl rfl rfl ?_
  refine zz_E.n 432 rfl rfl rfl ?_
  refine zz_E.n 433 rfl rfl rfl ?_
  refine zz_E.t (.int 2) 434 rfl rfl rfl ?_
  refine zz_E.n 435 rfl rfl rfl ?_
  refine zz_E.cl (M' := zm_12) 438 rfl rfl (by decide) rfl rfl ⟨rfl, Nat.le_of_ble_eq_true rfl⟩ rfl ?_
  refine zz_E.n 1 rfl rfl rfl ?_
  refine zz_E.cl (M' := zm_21) 4 rfl rfl (by decide) rfl rfl ⟨rfl, Nat.le_of_ble_eq_true rfl⟩ rfl ?_
  refine zz_E.n 1 rfl rfl rfl ?_
  refine zz_E.jf 4 rfl (by rfl) (by decide) rfl ?_
  refine zz_E.n 5 rfl rfl rfl ?_
  refine zz_E.n 7 rfl rfl rfl ?_
  refine zz_E.kf 10 rfl (by rfl) (by decide) rfl ?_
  refine zz_E.n 11 rfl rfl rfl ?_
  refine zz_E.n 15 rfl rfl rfl ?_
  refine zz_E.ret rfl rfl rfl ?_
  refine zz_E.jf 7 rfl (by rfl) (by decide) rfl ?_
  refine zz_E.n 8 rfl rfl rfl ?_
  refine zz_E.n 11 rfl rfl rfl ?_
  refine zz_E.n 12 rfl rfl rfl ?_
  refine zz_E.n 13 rfl rfl rfl ?_
  refine zz_E.cl (M' := zm_26) 16 rfl rfl (by decide) rfl rfl ⟨rfl, Nat.le_of_ble_eq_true rfl⟩ rfl ?_
  refine zz_E.n 1 rfl rfl rfl ?_
  refine zz_E.n 2 rfl rfl rfl ?_
  refine zz_E.cl (M' := zm_23) 5 rfl rfl (by decide) rfl rfl ⟨rfl, Nat.le_of_ble_eq_true rfl⟩ rfl ?_
  refine zz_E.n 1 rfl rfl rfl ?_
  refine zz_E.n 4 rfl rfl rfl ?_
  refine zz_E.n 5 rfl rfl rfl ?_
  refine zz_E.t (.int 0) 6 rfl rfl rfl ?_
  refine zz_E.jf 9 rfl (by rfl) (by decide) rfl ?_
  refine zz_E.n 10 rfl rfl rfl ?_
  refine zz_E.n 21 rfl rfl rfl ?_
  refine zz_E.ret rfl rfl rfl ?_
  refine zz_E.n 6 rfl rfl rfl ?_
  refine zz_E.kf 9 rfl (by rfl) (by decide) rfl ?_
  refine zz_E.n 10 rfl rfl rfl ?_
  refine zz_E.n 13 rfl rfl rfl ?_
  refine zz_E.n 14 rfl rfl rfl ?_
  refine zz_E.n 15 rfl rfl rfl ?_
  refine zz_E.n 16 rfl rfl rfl ?_
  refine zz_E.n 17 rfl rfl rfl ?_
  refine zz_E.n 18 rfl rfl rfl ?_
  refine zz_E.n 19 rfl rfl rfl ?_
  refine zz_E.cl (M' := zm_25) 22 rfl rfl (by decide) rfl rfl ⟨rfl, Nat.le_of_ble_eq_true rfl⟩ rfl ?_
  refine zz_E.n 1 rfl rfl rfl ?_
  refine zz_E.n 4 rfl rfl rfl ?_
  refine zz_E.n 5 rfl rfl rfl ?_
  refine zz_E.t (.int 0) 6 rfl rfl rfl ?_
  refine zz_E.n 7 rfl rfl rfl ?_
  refine zz_E.n 8 rfl rfl rfl ?_
  refine zz_E.n 9 rfl rfl rfl ?_
  refine zz_E.n 12 rfl rfl rfl ?_
  refine zz_E.n 13 rfl rfl rfl ?_
  refine zz_E.n 14 rfl rfl rfl ?_
  refine zz_E.n 15 rfl rfl rfl ?_
  refine zz_E.kt 38 rfl (by rfl) (by decide) rfl ?_
  refine zz_E.n 39 rfl rfl rfl ?_
  refine zz_E.n 42 rfl rfl rfl ?_
  refine zz_E.n 43 rfl rfl rfl ?_
  refine zz_E.n 44 rfl rfl rfl ?_
  refine zz_E.n 45 rfl rfl rfl ?_
  refine zz_E.n 46 rfl rfl rfl ?_
  refine zz_E.n 47 rfl rfl rfl ?_
  refine zz_E.n 48 rfl rfl rfl ?_
  refine zz_E.n 51 rfl rfl rfl ?_
  refine zz_E.n 52 rfl rfl rfl ?_
  refine zz_E.n 53 rfl rfl rfl ?_
  refine zz_E.n 54 rfl rfl rfl ?_
  refine zz_E.t (.int 1) 55 rfl rfl rfl ?_
  refine zz_E.n 56 rfl rfl rfl ?_
  refine zz_E.ret rfl rfl rfl ?_
  refine zz_E.n 23 rfl rfl rfl ?_
  refine zz_E.n 24 rfl rfl rfl ?_
  refine zz_E.n 25 rfl rfl rfl ?_
  refine zz_E.cl (M' := zm_25) 28 rfl rfl (by decide) rfl rfl ⟨rfl, Nat.le_of_ble_eq_true rfl⟩ rfl ?_
  refine zz_E.n 1 rfl rfl rfl ?_
  refine zz_E.n 4 rfl rfl rfl ?_
  refine zz_E.n 5 rfl rfl rfl ?_
  refine zz_E.t (.int 1) 6 rfl rfl rfl ?_
  refine zz_E.n 7 rfl rfl rfl ?_
  refine zz_E.n 8 rfl rfl rfl ?_
  refine zz_E.n 9 rfl rfl rfl ?_
  refine zz_E.n 12 rfl rfl rfl ?_
  refine zz_E.n 13 rfl rfl rfl ?_
  refine zz_E.n 14 rfl rfl rfl ?_
  refine zz_E.n 15 rfl rfl rfl ?_
  refine zz_E.kt 38 rfl (by rfl) (by decide) rfl ?_
  refine zz_E.n 39 rfl rfl rfl ?_
  refine zz_E.n 42 rfl rfl rfl ?_
  refine zz_E.n 43 rfl rfl rfl ?_
  refine zz_E.n 44 rfl rfl rfl ?_
  refine zz_E.n 45 rfl rfl rfl ?_
  refine zz_E.n 46 rfl rfl rfl ?_
  refine zz_E.n 47 rfl rfl rfl ?_
  refine zz_E.n 48 rfl rfl rfl ?_
  refine zz_E.n 51 rfl rfl rfl ?_
  refine zz_E.n 52 rfl rfl rfl ?_
  refine zz_E.n 53 rfl rfl rfl ?_
  refine zz_E.n 54 rfl rfl rfl ?_
  refine zz_E.t (.int 2) 55 rfl rfl rfl ?_
  refine zz_E.n 56 rfl rfl rfl ?_
  refine zz_E.ret rfl rfl rfl ?_
  refine zz_E.n 29 rfl rfl rfl ?_
  refine zz_E.n 32 rfl rfl rfl ?_
  refine zz_E.n 33 rfl rfl rfl ?_
  refine zz_E.n 34 rfl rfl rfl ?_
  refine zz_E.n 35 rfl rfl rfl ?_
  refine zz_E.t (.int 0) 36 rfl rfl rfl ?_
  refine zz_E.n 38 rfl rfl rfl ?_
  refine zz_E.kt 43 rfl (by rfl) (by decide) rfl ?_
  refine zz_E.n 44 rfl rfl rfl ?_
  refine zz_E.n 47 rfl rfl rfl ?_
  refine zz_E.n 48 rfl rfl rfl ?_
  refine zz_E.n 49 rfl rfl rfl ?_
  refine zz_E.n 50 rfl rfl rfl ?_
  refine zz_E.n 51 rfl rfl rfl ?_
  refine zz_E.t (.int 0) 52 rfl rfl rfl ?_
  refine zz_E.n 53 rfl rfl rfl ?_
  refine zz_E.t (.int 1) 54 rfl rfl rfl ?_
  refine zz_E.n 55 rfl rfl rfl ?_
  refine zz_E.n 56 rfl rfl rfl ?_
  refine zz_E.n 57 rfl rfl rfl ?_
  refine zz_E.n 58 rfl rfl rfl ?_
  refine zz_E.cl (M' := zm_25) 61 rfl rfl (by decide) rfl rfl ⟨rfl, Nat.le_of_ble_eq_true rfl⟩ rfl ?_
  refine zz_E.n 1 rfl rfl rfl ?_
  refine zz_E.n 4 rfl rfl rfl ?_
  refine zz_E.n 5 rfl rfl rfl ?_
  refine zz_E.t (.int 2) 6 rfl rfl rfl ?_
  refine zz_E.n 7 rfl rfl rfl ?_
  refine zz_E.n 8 rfl rfl rfl ?_
  refine zz_E.n 9 rfl rfl rfl ?_
  refine zz_E.n 12 rfl rfl rfl ?_
  refine zz_E.n 13 rfl rfl rfl ?_
  refine zz_E.n 14 rfl rfl rfl ?_
  refine zz_E.n 15 rfl rfl rfl ?_
  refine zz_E.kt 38 rfl (by rfl) (by decide) rfl ?_
  refine zz_E.n 39 rfl rfl rfl ?_
  refine zz_E.n 42 rfl rfl rfl ?_
  refine zz_E.n 43 rfl rfl rfl ?_
  refine zz_E.n 44 rfl rfl rfl ?_
  refine zz_E.n 45 rfl rfl rfl ?_
  refine zz_E.n 46 rfl rfl rfl ?_
  refine zz_E.n 47 rfl rfl rfl ?_
  refine zz_E.n 48 rfl rfl rfl ?_
  refine zz_E.n 51 rfl rfl rfl ?_
  refine zz_E.n 52 rfl rfl rfl ?_
  refine zz_E.n 53 rfl rfl rfl ?_
  refine zz_E.n 54 rfl rfl rfl ?_
  refine zz_E.t (.int 3) 55 rfl rfl rfl ?_
  refine zz_E.n 56 rfl rfl rfl ?_
  refine zz_E.ret rfl rfl rfl ?_
  refine zz_E.n 62 rfl rfl rfl ?_
  refine zz_E.ret rfl rfl rfl ?_
  refine zz_E.jf 19 rfl (by rfl) (by decide) rfl ?_
  refine zz_E.n 20 rfl rfl rfl ?_
  refine zz_E.n 24 rfl rfl rfl ?_
  refine zz_E.ret rfl rfl rfl ?_
  refine zz_E.n 439 rfl rfl rfl ?_
  refine zz_E.n 440 rfl rfl rfl ?_
  refine zz_E.n 441 rfl rfl rfl ?_
  refine zz_E.n 442 rfl rfl rfl ?_
  refine zz_E.t (.int 1) 443 rfl rfl rfl ?_
  refine zz_E.t (.int 7) 444 rfl rfl rfl ?_
  refine zz_E.n 445 rfl rfl rfl ?_
  refine zz_E.n 446 rfl rfl rfl ?_
  refine zz_E.n 447 rfl rfl rfl ?_
  refine zz_E.t (.int 2) 448 rfl rfl rfl ?_
  refine zz_E.n 449 rfl rfl rfl ?_
  refine zz_E.cl (M' := zm_76) 452 rfl rfl (by decide) rfl rfl ⟨rfl, Nat.le_of_ble_eq_true rfl⟩ rfl ?_
  refine zz_E.n 1 rfl rfl rfl ?_
  refine zz_E.cl (M' := zm_73) 4 rfl rfl (by decide) rfl rfl ⟨rfl, Nat.le_of_ble_eq_true rfl⟩ rfl ?_
  refine zz_E.n 1 rfl rfl rfl ?_
  refine zz_E.jf 4 rfl (by rfl) (by decide) rfl ?_
  refine zz_E.n 5 rfl rfl rfl ?_
  refine zz_E.n 7 rfl rfl rfl ?_
  refine zz_E.kf 10 rfl (by rfl) (by decide) rfl ?_
  refine zz_E.n 11 rfl rfl rfl ?_
  refine zz_E.n 15 rfl rfl rfl ?_
  refine zz_E.ret rfl rfl rfl ?_
  refine zz_E.jt 9 rfl (by rfl) (by decide) rfl ?_
  refine zz_E.n 12 rfl rfl rfl ?_
  refine zz_E.n 13 rfl rfl rfl ?_
  refine zz_E.t (.int 16870) 14 rfl rfl rfl ?_
  refine zz_E.n 15 rfl rfl rfl ?_
  refine zz_E.n 16 rfl rfl rfl ?_
  refine zz_E.n 19 rfl rfl rfl ?_
  refine zz_E.n 20 rfl rfl rfl ?_
  refine zz_E.t (.int (-1)) 21 rfl rfl rfl ?_
  refine zz_E.n 22 rfl rfl rfl ?_
  refine zz_E.kf 25 rfl (by rfl) (by decide) rfl ?_
  refine zz_E.n 26 rfl rfl rfl ?_
  refine zz_E.n 29 rfl rfl rfl ?_
  refine zz_E.n 30 rfl rfl rfl ?_
  refine zz_E.n 31 rfl rfl rfl ?_
  refine zz_E.n 32 rfl rfl rfl ?_
  refine zz_E.n 33 rfl rfl rfl ?_
  refine zz_E.n 36 rfl rfl rfl ?_
  refine zz_E.n 37 rfl rfl rfl ?_
  refine zz_E.n 38 rfl rfl rfl ?_
  refine zz_E.t (.int 16871) 39 rfl rfl rfl ?_
  refine zz_E.n 40 rfl rfl rfl ?_
  refine zz_E.n 41 rfl rfl rfl ?_
  refine zz_E.n 42 rfl rfl rfl ?_
  refine zz_E.n 43 rfl rfl rfl ?_
  refine zz_E.cl (M' := zm_77) 46 rfl rfl (by decide) rfl rfl ⟨rfl, Nat.le_of_ble_eq_true rfl⟩ rfl ?_
  refine zz_E.n 1 rfl rfl rfl ?_
  refine zz_E.n 4 rfl rfl rfl ?_
  refine zz_E.n 5 rfl rfl rfl ?_
  refine zz_E.n 6 rfl rfl rfl ?_
  refine zz_E.t (.int 16871) 7 rfl rfl rfl ?_
  refine zz_E.t (.int 0) 8 rfl rfl rfl ?_
  refine zz_E.ret rfl rfl rfl ?_
  refine zz_E.n 48 rfl rfl rfl ?_
  refine zz_E.kt 53 rfl (by rfl) (by decide) rfl ?_
  refine zz_E.n 54 rfl rfl rfl ?_
  refine zz_E.n 57 rfl rfl rfl ?_
  refine zz_E.n 58 rfl rfl rfl ?_
  refine zz_E.n 59 rfl rfl rfl ?_
  refine zz_E.t (.int 16872) 60 rfl rfl rfl ?_
  refine zz_E.n 61 rfl rfl rfl ?_
  refine zz_E.n 62 rfl rfl rfl ?_
  refine zz_E.cl (M' := zm_77) 65 rfl rfl (by decide) rfl rfl ⟨rfl, Nat.le_of_ble_eq_true rfl⟩ rfl ?_
  refine zz_E.n 1 rfl rfl rfl ?_
  refine zz_E.n 4 rfl rfl rfl ?_
  refine zz_E.n 5 rfl rfl rfl ?_
  refine zz_E.n 6 rfl rfl rfl ?_
  refine zz_E.t (.int 16871) 7 rfl rfl rfl ?_
  refine zz_E.t (.int 0) 8 rfl rfl rfl ?_
  refine zz_E.ret rfl rfl rfl ?_
  refine zz_E.t (.int 16872) 66 rfl rfl rfl ?_
  refine zz_E.n 67 rfl rfl rfl ?_
  refine zz_E.n 68 rfl rfl rfl ?_
  refine zz_E.n 69 rfl rfl rfl ?_
  refine zz_E.n 72 rfl rfl rfl ?_
  refine zz_E.n 73 rfl rfl rfl ?_
  refine zz_E.n 74 rfl rfl rfl ?_
  refine zz_E.t (.int 16871) 75 rfl rfl rfl ?_
  refine zz_E.n 76 rfl rfl rfl ?_
  refine zz_E.t (.int 0) 77 rfl rfl rfl ?_
  refine zz_E.n 78 rfl rfl rfl ?_
  refine zz_E.t (.int 1) 79 rfl rfl rfl ?_
  refine zz_E.n 80 rfl rfl rfl ?_
  refine zz_E.n 81 rfl rfl rfl ?_
  refine zz_E.ret rfl rfl rfl ?_
  refine zz_E.kt 652 rfl (by rfl) (by decide) rfl ?_
  refine zz_E.n 655 rfl rfl rfl ?_
  refine zz_E.n 18 rfl rfl rfl ?_
  refine zz_E.n 19 rfl rfl rfl ?_
  refine zz_E.n 20 rfl rfl rfl ?_
  refine zz_E.n 21 rfl rfl rfl ?_
  refine zz_E.n 23 rfl rfl rfl ?_
  refine zz_E.t (.int 0) 24 rfl rfl rfl ?_
  refine zz_E.kt 658 rfl (by rfl) (by decide) rfl ?_
  refine zz_E.n 659 rfl rfl rfl ?_
  refine zz_E.ret rfl rfl rfl ?_
  refine ⟨rfl, by simp only [List.length_set]; exact zv_lnh, zv_sl0 ?_⟩
  repeat (first | refine zv_slA ?_ (by decide) | refine zv_slO ?_ (by decide))
  exact Nat.le_trans (Nat.add_le_add_right zv_slh _) (by decide)
set_option maxRecDepth 100000 in
set_option maxHeartbeats 8000000 in
theorem zv_k11_0 (xs : Nat → Int32) : zz_E zp_P zt_tf zt_fd (zt_X 6 (fun q => if q = 1 then nI 0 else xs q)) 1000 zm_law 33 zv_L [.int (nI 11)] zv_h zv_Q := by
  refine zz_E.n 457 rfl rfl rfl ?_
  refine zz_E.n 458 rfl rfl rfl ?_
  refine zz_E.n 459 rfl rfl rfl ?_
  refine zz_E.n 460 rfl rfl rfl ?_
  refine zz_E.n 461 rfl rfl rfl ?_
  refine zz_E.n 462 rfl rfl rfl ?_
  refine zz_E.n 463 rfl rfl rfl ?_
  refine zz_E.cl (M' := zm_13) 466 rfl rfl (by decide) rfl rfl ⟨rfl, Nat.le_of_ble_eq_true rfl⟩ rfl ?_
  refine zz_E.n 1 rfl rfl rfl ?_
  refine zz_E.cl (M' := zm_21) 4 rfl rfl (by decide) rfl rfl ⟨rfl, Nat.le_of_ble_eq_true rfl⟩ rfl ?_
  refine zz_E.n 1 rfl rfl rfl ?_
  refine zz_E.jf 4 rfl (by rfl) (by decide) rfl ?_
  refine zz_E.n 5 rfl rfl rfl ?_
  refine zz_E.n 7 rfl rfl rfl ?_
  refine zz_E.kf 10 rfl (by rfl) (by decide) rfl ?_
  refine zz_E.n 11 rfl rfl rfl ?_
  refine zz_E.n 15 rfl rfl rfl ?_
  refine zz_E.ret rfl rfl rfl ?_
  refine zz_E.jf 7 rfl (by rfl) (by decide) rfl ?_
  refine zz_E.n 8 rfl rfl rfl ?_
  refine zz_E.n 11 rfl rfl rfl ?_
  refine zz_E.n 12 rfl rfl rfl ?_
  refine zz_E.cl (M' := zm_23) 15 rfl rfl (by decide) rfl rfl ⟨rfl, Nat.le_of_ble_eq_true rfl⟩ rfl ?_
  refine zz_E.n 1 rfl rfl rfl ?_
  refine zz_E.n 4 rfl rfl rfl ?_
  refine zz_E.n 5 rfl rfl rfl ?_
  refine zz_E.n 6 rfl rfl rfl ?_
  refine zz_E.jf 9 rfl (by rfl) (by decide) rfl ?_
  refine zz_E.n 10 rfl rfl rfl ?_
  refine zz_E.n 21 rfl rfl rfl ?_
  refine zz_E.ret rfl rfl rfl ?_
  refine zz_E.n 16 rfl rfl rfl ?_
  refine zz_E.kf 19 rfl (by rfl) (by decide) rfl ?_
  refine zz_E.n 20 rfl rfl rfl ?_
  refine zz_E.ret rfl rfl rfl ?_
  refine zz_E.n 467 rfl rfl rfl ?_
  refine zz_E.n 468 rfl rfl rfl ?_
  refine zz_E.n 469 rfl rfl rfl ?_
  refine zz_E.n 470 rfl rfl rfl ?_
  refine zz_E.n 471 rfl rfl rfl ?_
  refine zz_E.n 472 rfl rfl rfl ?_
  refine zz_E.cl (M' := zm_78) 475 rfl rfl (by decide) rfl rfl ⟨rfl, Nat.le_of_ble_eq_true rfl⟩ rfl ?_
  refine zz_E.n 1 rfl rfl rfl ?_
  refine zz_E.cl (M' := zm_73) 4 rfl rfl (by decide) rfl rfl ⟨rfl, Nat.le_of_ble_eq_true rfl⟩ rfl ?_
  refine zz_E.n 1 rfl rfl rfl ?_
  refine zz_E.jf 4 rfl (by rfl) (by decide) rfl ?_
  refine zz_E.n 5 rfl rfl rfl ?_
  refine zz_E.n 7 rfl rfl rfl ?_
  refine zz_E.kf 10 rfl (by rfl) (by decide) rfl ?_
  refine zz_E.n 11 rfl rfl rfl ?_
  refine zz_E.n 15 rfl rfl rfl ?_
  refine zz_E.ret rfl rfl rfl ?_
  refine zz_E.jf 7 rfl (by rfl) (by decide) rfl ?_
  refine zz_E.n 8 rfl rfl rfl ?_
  refine zz_E.n 11 rfl rfl rfl ?_
  refine zz_E.n 14 rfl rfl rfl ?_
  refine zz_E.n 15 rfl rfl rfl ?_
  refine zz_E.n 16 rfl rfl rfl ?_
  refine zz_E.n 17 rfl rfl rfl ?_
  refine zz_E.n 18 rfl rfl rfl ?_
  refine zz_E.kf 21 rfl (by rfl) (by decide) rfl ?_
  refine zz_E.n 22 rfl rfl rfl ?_
  refine zz_E.ret rfl rfl rfl ?_
  refine zz_E.kt 652 rfl (by rfl) (by decide) rfl ?_
  refine zz_E.n 655 rfl rfl rfl ?_
  refine zz_E.n 18 rfl rfl rfl ?_
  refine zz_E.n 19 rfl rfl rfl ?_
  refine zz_E.n 20 rfl rfl rfl ?_
  refine zz_E.n 21 rfl rfl rfl ?_
  refine zz_E.n 23 rfl rfl rfl ?_
  refine zz_E.n 24 rfl rfl rfl ?_
  refine zz_E.kt 658 rfl (by rfl) (by decide) rfl ?_
  refine zz_E.n 659 rfl rfl rfl ?_
  refine zz_E.ret rfl rfl rfl ?_
  exact ⟨rfl, by decide +kernel, by decide +kernel⟩
set_option maxRecDepth 100000 in
set_option maxHeartbeats 8000000 in
theorem zv_k11_1 (xs : Nat → Int32) : zz_E zp_P zt_tf zt_fd (zt_X 6 (fun q => if q = 1 then nI 1 else xs q)) 1000 zm_law 33 zv_L [.int (nI 11)] zv_h zv_Q := by
  refine zz_E.n 457 rfl rfl rfl ?_
  refine zz_E.n 458 rfl rfl rfl ?_
  refine zz_E.n 459 rfl rfl rfl ?_
  refine zz_E.n 460 rfl rfl rfl ?_
  refine zz_E.n 461 rfl rfl rfl ?_
  refine zz_E.n 462 rfl rfl rfl ?_
  refine zz_E.n 463 rfl rfl rfl ?_
  refine zz_E.cl (M' := zm_13) 466 rfl rfl (by decide) rfl rfl ⟨rfl, Nat.le_of_ble_eq_true rfl⟩ rfl ?_
  refine zz_E.n 1 rfl rfl rfl ?_
  refine zz_E.cl (M' := zm_21) 4 rfl rfl (by decide) rfl rfl ⟨rfl, Nat.le_of_ble_eq_true rfl⟩ rfl ?_
  refine zz_E.n 1 rfl rfl rfl ?_
  refine zz_E.jf 4 rfl (by rfl) (by decide) rfl ?_
  refine zz_E.n 5 rfl rfl rfl ?_
  refine zz_E.n 7 rfl rfl rfl ?_
  refine zz_E.kf 10 rfl (by rfl) (by decide) rfl ?_
  refine zz_E.n 11 rfl rfl rfl ?_
  refine zz_E.n 15 rfl rfl rfl ?_
  refine zz_E.ret rfl rfl rfl ?_
  refine zz_E.jf 7 rfl (by rfl) (by decide) rfl ?_
  refine zz_E.n 8 rfl rfl rfl ?_
  refine zz_E.n 11 rfl rfl rfl ?_
  refine zz_E.n 12 rfl rfl rfl ?_
  refine zz_E.cl (M' := zm_23) 15 rfl rfl (by decide) rfl rfl ⟨rfl, Nat.le_of_ble_eq_true rfl⟩ rfl ?_
  refine zz_E.n 1 rfl rfl rfl ?_
  refine zz_E.n 4 rfl rfl rfl ?_
  refine zz_E.n 5 rfl rfl rfl ?_
  refine zz_E.n 6 rfl rfl rfl ?_
  refine zz_E.jf 9 rfl (by rfl) (by decide) rfl ?_
  refine zz_E.n 10 rfl rfl rfl ?_
  refine zz_E.n 21 rfl rfl rfl ?_
  refine zz_E.ret rfl rfl rfl ?_
  refine zz_E.n 16 rfl rfl rfl ?_
  refine zz_E.kf 19 rfl (by rfl) (by decide) rfl ?_
  refine zz_E.n 20 rfl rfl rfl ?_
  refine zz_E.ret rfl rfl rfl ?_
  refine zz_E.n 467 rfl rfl rfl ?_
  refine zz_E.n 468 rfl rfl rfl ?_
  refine zz_E.n 469 rfl rfl rfl ?_
  refine zz_E.n 470 rfl rfl rfl ?_
  refine zz_E.n 471 rfl rfl rfl ?_
  refine zz_E.n 472 rfl rfl rfl ?_
  refine zz_E.cl (M' := zm_78) 475 rfl rfl (by decide) rfl rfl ⟨rfl, Nat.le_of_ble_eq_true rfl⟩ rfl ?_
  refine zz_E.n 1 rfl rfl rfl ?_
  refine zz_E.cl (M' := zm_73) 4 rfl rfl (by decide) rfl rfl ⟨rfl, Nat.le_of_ble_eq_true rfl⟩ rfl ?_
  refine zz_E.n 1 rfl rfl rfl ?_
  refine zz_E.jf 4 rfl (by rfl) (by decide) rfl ?_
  refine zz_E.n 5 rfl rfl rfl ?_
  refine zz_E.n 7 rfl rfl rfl ?_
  refine zz_E.kf 10 rfl (by rfl) (by decide) rfl ?_
  refine zz_E.n 11 rfl rfl rfl ?_
  refine zz_E.n 15 rfl rfl rfl ?_
  refine zz_E.ret rfl rfl rfl ?_
  refine zz_E.jf 7 rfl (by rfl) (by decide) rfl ?_
  refine zz_E.n 8 rfl rfl rfl ?_
  refine zz_E.n 11 rfl rfl rfl ?_
  refine zz_E.n 14 rfl rfl rfl ?_
  refine zz_E.n 15 rfl rfl rfl ?_
  refine zz_E.n 16 rfl rfl rfl ?_
  refine zz_E.n 17 rfl rfl rfl ?_
  refine zz_E.n 18 rfl rfl rfl ?_
  refine zz_E.kf 21 rfl (by rfl) (by decide) rfl ?_
  refine zz_E.n 22 rfl rfl rfl ?_
  refine zz_E.ret rfl rfl rfl ?_
  refine zz_E.kt 652 rfl (by rfl) (by decide) rfl ?_
  refine zz_E.n 655 rfl rfl rfl ?_
  refine zz_E.n 18 rfl rfl rfl ?_
  refine zz_E.n 19 rfl rfl rfl ?_
  refine zz_E.n 20 rfl rfl rfl ?_
  refine zz_E.n 21 rfl rfl rfl ?_
  refine zz_E.n 23 rfl rfl rfl ?_
  refine zz_E.n 24 rfl rfl rfl ?_
  refine zz_E.kt 658 rfl (by rfl) (by decide) rfl ?_
  refine zz_E.n 659 rfl rfl rfl ?_
  refine zz_E.ret rfl rfl rfl ?_
  exact ⟨rfl, by decide +kernel, by decide +kernel⟩
set_option maxRecDepth 100000 in
set_option maxHeartbeats 8000000 in
theorem zv_k11_2 (xs : Nat → Int32) : zz_E zp_P zt_tf zt_fd (zt_X 6 (fun q => if q = 1 then nI 2 else xs q)) 1000 zm_law 33 zv_L [.int (nI 11)] zv_h zv_Q := by
  refine zz_E.n 457 rfl rfl rfl ?_
  refine zz_E.n 458 rfl rfl rfl ?_
  refine zz_E.n 459 rfl rfl rfl ?_
  refine zz_E.n 460 rfl rfl rfl ?_
  refine zz_E.n 461 rfl rfl rfl ?_
  refine zz_E.n 462 rfl rfl rfl ?_
  refine zz_E.n 463 rfl rfl rfl ?_
  refine zz_E.cl (M' := zm_13) 466 rfl rfl (by decide) rfl rfl ⟨rfl, Nat.le_of_ble_eq_true rfl⟩ rfl ?_
  refine zz_E.n 1 rfl rfl rfl ?_
  refine zz_E.cl (M' := zm_21) 4 rfl rfl (by decide) rfl rfl ⟨rfl, Nat.le_of_ble_eq_true rfl⟩ rfl ?_
  refine zz_E.n 1 rfl rfl rfl ?_
  refine zz_E.jf 4 rfl (by rfl) (by decide) rfl ?_
  refine zz_E.n 5 rfl rfl rfl ?_
  refine zz_E.n 7 rfl rfl rfl ?_
  refine zz_E.kf 10 rfl (by rfl) (by decide) rfl ?_
  refine zz_E.n 11 rfl rfl rfl ?_
  refine zz_E.n 15 rfl rfl rfl ?_
  refine zz_E.ret rfl rfl rfl ?_
  refine zz_E.jf 7 rfl (by rfl) (by decide) rfl ?_
  refine zz_E.n 8 rfl rfl rfl ?_
  refine zz_E.n 11 rfl rfl rfl ?_
  refine zz_E.n 12 rfl rfl rfl ?_
  refine zz_E.cl (M' := zm_23) 15 rfl rfl (by decide) rfl rfl ⟨rfl, Nat.le_of_ble_eq_true rfl⟩ rfl ?_
  refine zz_E.n 1 rfl rfl rfl ?_
  refine zz_E.n 4 rfl rfl rfl ?_
  refine zz_E.n 5 rfl rfl rfl ?_
  refine zz_E.n 6 rfl rfl rfl ?_
  refine zz_E.jf 9 rfl (by rfl) (by decide) rfl ?_
  refine zz_E.n 10 rfl rfl rfl ?_
  refine zz_E.n 21 rfl rfl rfl ?_
  refine zz_E.ret rfl rfl rfl ?_
  refine zz_E.n 16 rfl rfl rfl ?_
  refine zz_E.kf 19 rfl (by rfl) (by decide) rfl ?_
  refine zz_E.n 20 rfl rfl rfl ?_
  refine zz_E.ret rfl rfl rfl ?_
  refine zz_E.n 467 rfl rfl rfl ?_
  refine zz_E.n 468 rfl rfl rfl ?_
  refine zz_E.n 469 rfl rfl rfl ?_
  refine zz_E.n 470 rfl rfl rfl ?_
  refine zz_E.n 471 rfl rfl rfl ?_
  refine zz_E.n 472 rfl rfl rfl ?_
  refine zz_E.cl (M' := zm_78) 475 rfl rfl (by decide) rfl rfl ⟨rfl, Nat.le_of_ble_eq_true rfl⟩ rfl ?_
  refine zz_E.n 1 rfl rfl rfl ?_
  refine zz_E.cl (M' := zm_73) 4 rfl rfl (by decide) rfl rfl ⟨rfl, Nat.le_of_ble_eq_true rfl⟩ rfl ?_
  refine zz_E.n 1 rfl rfl rfl ?_
  refine zz_E.jf 4 rfl (by rfl) (by decide) rfl ?_
  refine zz_E.n 5 rfl rfl rfl ?_
  refine zz_E.n 7 rfl rfl rfl ?_
  refine zz_E.kf 10 rfl (by rfl) (by decide) rfl ?_
  refine zz_E.n 11 rfl rfl rfl ?_
  refine zz_E.n 15 rfl rfl rfl ?_
  refine zz_E.ret rfl rfl rfl ?_
  refine zz_E.jf 7 rfl (by rfl) (by decide) rfl ?_
  refine zz_E.n 8 rfl rfl rfl ?_
  refine zz_E.n 11 rfl rfl rfl ?_
  refine zz_E.n 14 rfl rfl rfl ?_
  refine zz_E.n 15 rfl rfl rfl ?_
  refine zz_E.n 16 rfl rfl rfl ?_
  refine zz_E.n 17 rfl rfl rfl ?_
  refine zz_E.n 18 rfl rfl rfl ?_
  refine zz_E.kf 21 rfl (by rfl) (by decide) rfl ?_
  refine zz_E.n 22 rfl rfl rfl ?_
  refine zz_E.ret rfl rfl rfl ?_
  refine zz_E.kt 652 rfl (by rfl) (by decide) rfl ?_
  refine zz_E.n 655 rfl rfl rfl ?_
  refine zz_E.n 18 rfl rfl rfl ?_
  refine zz_E.n 19 rfl rfl rfl ?_
  refine zz_E.n 20 rfl rfl rfl ?_
  refine zz_E.n 21 rfl rfl rfl ?_
  refine zz_E.n 23 rfl rfl rfl ?_
  refine zz_E.n 24 rfl rfl rfl ?_
  refine zz_E.kt 658 rfl (by rfl) (by decide) rfl ?_
  refine zz_E.n 659 rfl rfl rfl ?_
  refine zz_E.ret rfl rfl rfl ?_
  exact ⟨rfl, by decide +kernel, by decide +kernel⟩
set_option maxRecDepth 100000 in
set_option maxHeartbeats 8000000 in
theorem zv_k11_3 (xs : Nat → Int32) : zz_E zp_P zt_tf zt_fd (zt_X 6 (fun q => if q = 1 then nI 3 else xs q)) 1000 zm_law 33 zv_L [.int (nI 11)] zv_h zv_Q := by
  refine zz_E.n 457 rfl rfl rfl ?_
  refine zz_E.n 458 rfl rfl rfl ?_
  refine zz_E.n 459 rfl rfl rfl ?_
  refine zz_E.n 460 rfl rfl rfl ?_
  refine zz_E.n 461 rfl rfl rfl ?_
  refine zz_E.n 462 rfl rfl rfl ?_
  refine zz_E.n 463 rfl rfl rfl ?_
  refine zz_E.cl (M' := zm_13) 466 rfl rfl (by decide) rfl rfl ⟨rfl, Nat.le_of_ble_eq_true rfl⟩ rfl ?_
  refine zz_E.n 1 rfl rfl rfl ?_
  refine zz_E.cl (M' := zm_21) 4 rfl rfl (by decide) rfl rfl ⟨rfl, Nat.le_of_ble_eq_true rfl⟩ rfl ?_
  refine zz_E.n 1 rfl rfl rfl ?_
  refine zz_E.jf 4 rfl (by rfl) (by decide) rfl ?_
  refine zz_E.n 5 rfl rfl rfl ?_
  refine zz_E.n 7 rfl rfl rfl ?_
  refine zz_E.kf 10 rfl (by rfl) (by decide) rfl ?_
  refine zz_E.n 11 rfl rfl rfl ?_
  refine zz_E.n 15 rfl rfl rfl ?_
  refine zz_E.ret rfl rfl rfl ?_
  refine zz_E.jf 7 rfl (by rfl) (by decide) rfl ?_
  refine zz_E.n 8 rfl rfl rfl ?_
  refine zz_E.n 11 rfl rfl rfl ?_
  refine zz_E.n 12 rfl rfl rfl ?_
  refine zz_E.cl (M' := zm_23) 15 rfl rfl (by decide) rfl rfl ⟨rfl, Nat.le_of_ble_eq_true rfl⟩ rfl ?_
  refine zz_E.n 1 rfl rfl rfl ?_
  refine zz_E.n 4 rfl rfl rfl ?_
  refine zz_E.n 5 rfl rfl rfl ?_
  refine zz_E.n 6 rfl rfl rfl ?_
  refine zz_E.jf 9 rfl (by rfl) (by decide) rfl ?_
  refine zz_E.n 10 rfl rfl rfl ?_
  refine zz_E.n 21 rfl rfl rfl ?_
  refine zz_E.ret rfl rfl rfl ?_
  refine zz_E.n 16 rfl rfl rfl ?_
  refine zz_E.kf 19 rfl (by rfl) (by decide) rfl ?_
  refine zz_E.n 20 rfl rfl rfl ?_
  refine zz_E.ret rfl rfl rfl ?_
  refine zz_E.n 467 rfl rfl rfl ?_
  refine zz_E.n 468 rfl rfl rfl ?_
  refine zz_E.n 469 rfl rfl rfl ?_
  refine zz_E.n 470 rfl rfl rfl ?_
  refine zz_E.n 471 rfl rfl rfl ?_
  refine zz_E.n 472 rfl rfl rfl ?_
  refine zz_E.cl (M' := zm_78) 475 rfl rfl (by decide) rfl rfl ⟨rfl, Nat.le_of_ble_eq_true rfl⟩ rfl ?_
  refine zz_E.n 1 rfl rfl rfl ?_
  refine zz_E.cl (M' := zm_73) 4 rfl rfl (by decide) rfl rfl ⟨rfl, Nat.le_of_ble_eq_true rfl⟩ rfl ?_
  refine zz_E.n 1 rfl rfl rfl ?_
  refine zz_E.jf 4 rfl (by rfl) (by decide) rfl ?_
  refine zz_E.n 5 rfl rfl rfl ?_
  refine zz_E.n 7 rfl rfl rfl ?_
  refine zz_E.kf 10 rfl (by rfl) (by decide) rfl ?_
  refine zz_E.n 11 rfl rfl rfl ?_
  refine zz_E.n 15 rfl rfl rfl ?_
  refine zz_E.ret rfl rfl rfl ?_
  refine zz_E.jf 7 rfl (by rfl) (by decide) rfl ?_
  refine zz_E.n 8 rfl rfl rfl ?_
  refine zz_E.n 11 rfl rfl rfl ?_
  refine zz_E.n 14 rfl rfl rfl ?_
  refine zz_E.n 15 rfl rfl rfl ?_
  refine zz_E.n 16 rfl rfl rfl ?_
  refine zz_E.n 17 rfl rfl rfl ?_
  refine zz_E.n 18 rfl rfl rfl ?_
  refine zz_E.kf 21 rfl (by rfl) (by decide) rfl ?_
  refine zz_E.n 22 rfl rfl rfl ?_
  refine zz_E.ret rfl rfl rfl ?_
  refine zz_E.kt 652 rfl (by rfl) (by decide) rfl ?_
  refine zz_E.n 655 rfl rfl rfl ?_
  refine zz_E.n 18 rfl rfl rfl ?_
  refine zz_E.n 19 rfl rfl rfl ?_
  refine zz_E.n 20 rfl rfl rfl ?_
  refine zz_E.n 21 rfl rfl rfl ?_
  refine zz_E.n 23 rfl rfl rfl ?_
  refine zz_E.n 24 rfl rfl rfl ?_
  refine zz_E.kt 658 rfl (by rfl) (by decide) rfl ?_
  refine zz_E.n 659 rfl rfl rfl ?_
  refine zz_E.ret rfl rfl rfl ?_
  exact ⟨rfl, by decide +kernel, by decide +kernel⟩
set_option maxRecDepth 100000 in
set_option maxHeartbeats 8000000 in
theorem zv_k11_4 (xs : Nat → Int32) : zz_E zp_P zt_tf zt_fd (zt_X 6 (fun q => if q = 1 then nI 4 else xs q)) 1000 zm_law 33 zv_L [.int (nI 11)] zv_h zv_Q := by
  refine zz_E.n 457 rfl rfl rfl ?_
  refine zz_E.n 458 rfl rfl rfl ?_
  refine zz_E.n 459 rfl rfl rfl ?_
  refine zz_E.n 460 rfl rfl rfl ?_
  refine zz_E.n 461 rfl rfl rfl ?_
  refine zz_E.n 462 rfl rfl rfl ?_
  refine zz_E.n 463 rfl rfl rfl ?_
  refine zz_E.cl (M' := zm_13) 466 rfl rfl (by decide) rfl rfl ⟨rfl, Nat.le_of_ble_eq_true rfl⟩ rfl ?_
  refine zz_E.n 1 rfl rfl rfl ?_
  refine zz_E.cl (M' := zm_21) 4 rfl rfl (by decide) rfl rfl ⟨rfl, Nat.le_of_ble_eq_true rfl⟩ rfl ?_
  refine zz_E.n 1 rfl rfl rfl ?_
  refine zz_E.jf 4 rfl (by rfl) (by decide) rfl ?_
  refine zz_E.n 5 rfl rfl rfl ?_
  refine zz_E.n 7 rfl rfl rfl ?_
  refine zz_E.kf 10 rfl (by rfl) (by decide) rfl ?_
  refine zz_E.n 11 rfl rfl rfl ?_
  refine zz_E.n 15 rfl rfl rfl ?_
  refine zz_E.ret rfl rfl rfl ?_
  refine zz_E.jf 7 rfl (by rfl) (by decide) rfl ?_
  refine zz_E.n 8 rfl rfl rfl ?_
  refine zz_E.n 11 rfl rfl rfl ?_
  refine zz_E.n 12 rfl rfl rfl ?_
  refine zz_E.cl (M' := zm_23) 15 rfl rfl (by decide) rfl rfl ⟨rfl, Nat.le_of_ble_eq_true rfl⟩ rfl ?_
  refine zz_E.n 1 rfl rfl rfl ?_
  refine zz_E.n 4 rfl rfl rfl ?_
  refine zz_E.n 5 rfl rfl rfl ?_
  refine zz_E.n 6 rfl rfl rfl ?_
  refine zz_E.jf 9 rfl (by rfl) (by decide) rfl ?_
  refine zz_E.n 10 rfl rfl rfl ?_
  refine zz_E.n 21 rfl rfl rfl ?_
  refine zz_E.ret rfl rfl rfl ?_
  refine zz_E.n 16 rfl rfl rfl ?_
  refine zz_E.kf 19 rfl (by rfl) (by decide) rfl ?_
  refine zz_E.n 20 rfl rfl rfl ?_
  refine zz_E.ret rfl rfl rfl ?_
  refine zz_E.n 467 rfl rfl rfl ?_
  refine zz_E.n 468 rfl rfl rfl ?_
  refine zz_E.n 469 rfl rfl rfl ?_
  refine zz_E.n 470 rfl rfl rfl ?_
  refine zz_E.n 471 rfl rfl rfl ?_
  refine zz_E.n 472 rfl rfl rfl ?_
  refine zz_E.cl (M' := zm_78) 475 rfl rfl (by decide) rfl rfl ⟨rfl, Nat.le_of_ble_eq_true rfl⟩ rfl ?_
  refine zz_E.n 1 rfl rfl rfl ?_
  refine zz_E.cl (M' := zm_73) 4 rfl rfl (by decide) rfl rfl ⟨rfl, Nat.le_of_ble_eq_true rfl⟩ rfl ?_
  refine zz_E.n 1 rfl rfl rfl ?_
  refine zz_E.jf 4 rfl (by rfl) (by decide) rfl ?_
  refine zz_E.n 5 rfl rfl rfl ?_
  refine zz_E.n 7 rfl rfl rfl ?_
  refine zz_E.kf 10 rfl (by rfl) (by decide) rfl ?_
  refine zz_E.n 11 rfl rfl rfl ?_
  refine zz_E.n 15 rfl rfl rfl ?_
  refine zz_E.ret rfl rfl rfl ?_
  refine zz_E.jf 7 rfl (by rfl) (by decide) rfl ?_
  refine zz_E.n 8 rfl rfl rfl ?_
  refine zz_E.n 11 rfl rfl rfl ?_
  refine zz_E.n 14 rfl rfl rfl ?_
  refine zz_E.n 15 rfl rfl rfl ?_
  refine zz_E.n 16 rfl rfl rfl ?_
  refine zz_E.n 17 rfl rfl rfl ?_
  refine zz_E.n 18 rfl rfl rfl ?_
  refine zz_E.kf 21 rfl (by rfl) (by decide) rfl ?_
  refine zz_E.n 22 rfl rfl rfl ?_
  refine zz_E.ret rfl rfl rfl ?_
  refine zz_E.kt 652 rfl (by rfl) (by decide) rfl ?_
  refine zz_E.n 655 rfl rfl rfl ?_
  refine zz_E.n 18 rfl rfl rfl ?_
  refine zz_E.n 19 rfl rfl rfl ?_
  refine zz_E.n 20 rfl rfl rfl ?_
  refine zz_E.n 21 rfl rfl rfl ?_
  refine zz_E.n 23 rfl rfl rfl ?_
  refine zz_E.n 24 rfl rfl rfl ?_
  refine zz_E.kt 658 rfl (by rfl) (by decide) rfl ?_
  refine zz_E.n 659 rfl rfl rfl ?_
  refine zz_E.ret rfl rfl rfl ?_
  exact ⟨rfl, by decide +kernel, by decide +kernel⟩
set_option maxRecDepth 100000 in
set_option maxHeartbeats 8000000 in
theorem zv_k11_5 (xs : Nat → Int32) : zz_E zp_P zt_tf zt_fd (zt_X 6 (fun q => if q = 1 then nI 5 else xs q)) 1000 zm_law 33 zv_L [.int (nI 11)] zv_h zv_Q := by
  refine zz_E.n 457 rfl rfl rfl ?_
  refine zz_E.n 458 rfl rfl rfl ?_
  refine zz_E.n 459 rfl rfl rfl ?_
  refine zz_E.n 460 rfl rfl rfl ?_
  refine zz_E.n 461 rfl rfl rfl ?_
  refine zz_E.n 462 rfl rfl rfl ?_
  refine zz_E.n 463 rfl rfl rfl ?_
  refine zz_E.cl (M' := zm_13) 466 rfl rfl (by decide) rfl rfl ⟨rfl, Nat.le_of_ble_eq_true rfl⟩ rfl ?_
  refine zz_E.n 1 rfl rfl rfl ?_
  refine zz_E.cl (M' := zm_21) 4 rfl rfl (by decide) rfl rfl ⟨rfl, Nat.le_of_ble_eq_true rfl⟩ rfl ?_
  refine zz_E.n 1 rfl rfl rfl ?_
  refine zz_E.jf 4 rfl (by rfl) (by decide) rfl ?_
  refine zz_E.n 5 rfl rfl rfl ?_
  refine zz_E.n 7 rfl rfl rfl ?_
  refine zz_E.kf 10 rfl (by rfl) (by decide) rfl ?_
  refine zz_E.n 11 rfl rfl rfl ?_
  refine zz_E.n 15 rfl rfl rfl ?_
  refine zz_E.ret rfl rfl rfl ?_
  refine zz_E.jf 7 rfl (by rfl) (by decide) rfl ?_
  refine zz_E.n 8 rfl rfl rfl ?_
  refine zz_E.n 11 rfl rfl rfl ?_
  refine zz_E.n 12 rfl rfl rfl ?_
  refine zz_E.cl (M' := zm_23) 15 rfl rfl (by decide) rfl rfl ⟨rfl, Nat.le_of_ble_eq_true rfl⟩ rfl ?_
  refine zz_E.n 1 rfl rfl rfl ?_
  refine zz_E.n 4 rfl rfl rfl ?_
  refine zz_E.n 5 rfl rfl rfl ?_
  refine zz_E.n 6 rfl rfl rfl ?_
  refine zz_E.jf 9 rfl (by rfl) (by decide) rfl ?_
  refine zz_E.n 10 rfl rfl rfl ?_
  refine zz_E.n 21 rfl rfl rfl ?_
  refine zz_E.ret rfl rfl rfl ?_
  refine zz_E.n 16 rfl rfl rfl ?_
  refine zz_E.kf 19 rfl (by rfl) (by decide) rfl ?_
  refine zz_E.n 20 rfl rfl rfl ?_
  refine zz_E.ret rfl rfl rfl ?_
  refine zz_E.n 467 rfl rfl rfl ?_
  refine zz_E.n 468 rfl rfl rfl ?_
  refine zz_E.n 469 rfl rfl rfl ?_
  refine zz_E.n 470 rfl rfl rfl ?_
  refine zz_E.n 471 rfl rfl rfl ?_
  refine zz_E.n 472 rfl rfl rfl ?_
  refine zz_E.cl (M' := zm_78) 475 rfl rfl (by decide) rfl rfl ⟨rfl, Nat.le_of_ble_eq_true rfl⟩ rfl ?_
  refine zz_E.n 1 rfl rfl rfl ?_
  refine zz_E.cl (M' := zm_73) 4 rfl rfl (by decide) rfl rfl ⟨rfl, Nat.le_of_ble_eq_true rfl⟩ rfl ?_
  refine zz_E.n 1 rfl rfl rfl ?_
  refine zz_E.jf 4 rfl (by rfl) (by decide) rfl ?_
  refine zz_E.n 5 rfl rfl rfl ?_
  refine zz_E.n 7 rfl rfl rfl ?_
  refine zz_E.kf 10 rfl (by rfl) (by decide) rfl ?_
  refine zz_E.n 11 rfl rfl rfl ?_
  refine zz_E.n 15 rfl rfl rfl ?_
  refine zz_E.ret rfl rfl rfl ?_
  refine zz_E.jf 7 rfl (by rfl) (by decide) rfl ?_
  refine zz_E.n 8 rfl rfl rfl ?_
  refine zz_E.n 11 rfl rfl rfl ?_
  refine zz_E.n 14 rfl rfl rfl ?_
  refine zz_E.n 15 rfl rfl rfl ?_
  refine zz_E.n 16 rfl rfl rfl ?_
  refine zz_E.n 17 rfl rfl rfl ?_
  refine zz_E.n 18 rfl rfl rfl ?_
  refine zz_E.kf 21 rfl (by rfl) (by decide) rfl ?_
  refine zz_E.n 22 rfl rfl rfl ?_
  refine zz_E.ret rfl rfl rfl ?_
  refine zz_E.kt 652 rfl (by rfl) (by decide) rfl ?_
  refine zz_E.n 655 rfl rfl rfl ?_
  refine zz_E.n 18 rfl rfl rfl ?_
  refine zz_E.n 19 rfl rfl rfl ?_
  refine zz_E.n 20 rfl rfl rfl ?_
  refine zz_E.n 21 rfl rfl rfl ?_
  refine zz_E.n 23 rfl rfl rfl ?_
  refine zz_E.n 24 rfl rfl rfl ?_
  refine zz_E.kt 658 rfl (by rfl) (by decide) rfl ?_
  refine zz_E.n 659 rfl rfl rfl ?_
  refine zz_E.ret rfl rfl rfl ?_
  exact ⟨rfl, by decide +kernel, by decide +kernel⟩
set_option maxRecDepth 100000 in
set_option maxHeartbeats 8000000 in
theorem zv_k11_6 (xs : Nat → Int32) : zz_E zp_P zt_tf zt_fd (zt_X 6 (fun q => if q = 1 then nI 6 else xs q)) 1000 zm_law 33 zv_L [.int (nI 11)] zv_h zv_Q := by
  refine zz_E.n 457 rfl rfl rfl ?_
  refine zz_E.n 458 rfl rfl rfl ?_
  refine zz_E.n 459 rfl rfl rfl ?_
  refine zz_E.n 460 rfl rfl rfl ?_
  refine zz_E.n 461 rfl rfl rfl ?_
  refine zz_E.n 462 rfl rfl rfl ?_
  refine zz_E.n 463 rfl rfl rfl ?_
  refine zz_E.cl (M' := zm_13) 466 rfl rfl (by decide) rfl rfl ⟨rfl, Nat.le_of_ble_eq_true rfl⟩ rfl ?_
  refine zz_E.n 1 rfl rfl rfl ?_
  refine zz_E.cl (M' := zm_21) 4 rfl rfl (by decide) rfl rfl ⟨rfl, Nat.le_of_ble_eq_true rfl⟩ rfl ?_
  refine zz_E.n 1 rfl rfl rfl ?_
  refine zz_E.jf 4 rfl (by rfl) (by decide) rfl ?_
  refine zz_E.n 5 rfl rfl rfl ?_
  refine zz_E.n 7 rfl rfl rfl ?_
  refine zz_E.kf 10 rfl (by rfl) (by decide) rfl ?_
  refine zz_E.n 11 rfl rfl rfl ?_
  refine zz_E.n 15 rfl rfl rfl ?_
  refine zz_E.ret rfl rfl rfl ?_
  refine zz_E.jf 7 rfl (by rfl) (by decide) rfl ?_
  refine zz_E.n 8 rfl rfl rfl ?_
  refine zz_E.n 11 rfl rfl rfl ?_
  refine zz_E.n 12 rfl rfl rfl ?_
  refine zz_E.cl (M' := zm_23) 15 rfl rfl (by decide) rfl rfl ⟨rfl, Nat.le_of_ble_eq_true rfl⟩ rfl ?_
  refine zz_E.n 1 rfl rfl rfl ?_
  refine zz_E.n 4 rfl rfl rfl ?_
  refine zz_E.n 5 rfl rfl rfl ?_
  refine zz_E.n 6 rfl rfl rfl ?_
  refine zz_E.jf 9 rfl (by rfl) (by decide) rfl ?_
  refine zz_E.n 10 rfl rfl rfl ?_
  refine zz_E.n 21 rfl rfl rfl ?_
  refine zz_E.ret rfl rfl rfl ?_
  refine zz_E.n 16 rfl rfl rfl ?_
  refine zz_E.kf 19 rfl (by rfl) (by decide) rfl ?_
  refine zz_E.n 20 rfl rfl rfl ?_
  refine zz_E.ret rfl rfl rfl ?_
  refine zz_E.n 467 rfl rfl rfl ?_
  refine zz_E.n 468 rfl rfl rfl ?_
  refine zz_E.n 469 rfl rfl rfl ?_
  refine zz_E.n 470 rfl rfl rfl ?_
  refine zz_E.n 471 rfl rfl rfl ?_
  refine zz_E.n 472 rfl rfl rfl ?_
  refine zz_E.cl (M' := zm_78) 475 rfl rfl (by decide) rfl rfl ⟨rfl, Nat.le_of_ble_eq_true rfl⟩ rfl ?_
  refine zz_E.n 1 rfl rfl rfl ?_
  refine zz_E.cl (M' := zm_73) 4 rfl rfl (by decide) rfl rfl ⟨rfl, Nat.le_of_ble_eq_true rfl⟩ rfl ?_
  refine zz_E.n 1 rfl rfl rfl ?_
  refine zz_E.jf 4 rfl (by rfl) (by decide) rfl ?_
  refine zz_E.n 5 rfl rfl rfl ?_
  refine zz_E.n 7 rfl rfl rfl ?_
  refine zz_E.kf 10 rfl (by rfl) (by decide) rfl ?_
  refine zz_E.n 11 rfl rfl rfl ?_
  refine zz_E.n 15 rfl rfl rfl ?_
  refine zz_E.ret rfl rfl rfl ?_
  refine zz_E.jf 7 rfl (by rfl) (by decide) rfl ?_
  refine zz_E.n 8 rfl rfl rfl ?_
  refine zz_E.n 11 rfl rfl rfl ?_
  refine zz_E.n 14 rfl rfl rfl ?_
  refine zz_E.n 15 rfl rfl rfl ?_
  refine zz_E.n 16 rfl rfl rfl ?_
  refine zz_E.n 17 rfl rfl rfl ?_
  refine zz_E.n 18 rfl rfl rfl ?_
  refine zz_E.kf 21 rfl (by rfl) (by decide) rfl ?_
  refine zz_E.n 22 rfl rfl rfl ?_
  refine zz_E.ret rfl rfl rfl ?_
  refine zz_E.kt 652 rfl (by rfl) (by decide) rfl ?_
  refine zz_E.n 655 rfl rfl rfl ?_
  refine zz_E.n 18 rfl rfl rfl ?_
  refine zz_E.n 19 rfl rfl rfl ?_
  refine zz_E.n 20 rfl rfl rfl ?_
  refine zz_E.n 21 rfl rfl rfl ?_
  refine zz_E.n 23 rfl rfl rfl ?_
  refine zz_E.n 24 rfl rfl rfl ?_
  refine zz_E.kt 658 rfl (by rfl) (by decide) rfl ?_
  refine zz_E.n 659 rfl rfl rfl ?_
  refine zz_E.ret rfl rfl rfl ?_
  exact ⟨rfl, by decide +kernel, by decide +kernel⟩
set_option maxRecDepth 100000 in
set_option maxHeartbeats 8000000 in
theorem zv_k11_7 (xs : Nat → Int32) : zz_E zp_P zt_tf zt_fd (zt_X 6 (fun q => if q = 1 then nI 7 else xs q)) 1000 zm_law 33 zv_L [.int (nI 11)] zv_h zv_Q := by
  refine zz_E.n 457 rfl rfl rfl ?_
  refine zz_E.n 458 rfl rfl rfl ?_
  refine zz_E.n 459 rfl rfl rfl ?_
  refine zz_E.n 460 rfl rfl rfl ?_
  refine zz_E.n 461 rfl rfl rfl ?_
  refine zz_E.n 462 rfl rfl rfl ?_
  refine zz_E.n 463 rfl rfl rfl ?_
  refine zz_E.cl (M' := zm_13) 466 rfl rfl (by decide) rfl rfl ⟨rfl, Nat.le_of_ble_eq_true rfl⟩ rfl ?_
  refine zz_E.n 1 rfl rfl rfl ?_
  refine zz_E.cl (M' := zm_21) 4 rfl rfl (by decide) rfl rfl ⟨rfl, Nat.le_of_ble_eq_true rfl⟩ rfl ?_
  refine zz_E.n 1 rfl rfl rfl ?_
  refine zz_E.jf 4 rfl (by rfl) (by decide) rfl ?_
  refine zz_E.n 5 rfl rfl rfl ?_
  refine zz_E.n 7 rfl rfl rfl ?_
  refine zz_E.kf 10 rfl (by rfl) (by decide) rfl ?_
  refine zz_E.n 11 rfl rfl rfl ?_
  refine zz_E.n 15 rfl rfl rfl ?_
  refine zz_E.ret rfl rfl rfl ?_
  refine zz_E.jf 7 rfl (by rfl) (by decide) rfl ?_
  refine zz_E.n 8 rfl rfl rfl ?_
  refine zz_E.n 11 rfl rfl rfl ?_
  refine zz_E.n 12 rfl rfl rfl ?_
  refine zz_E.cl (M' := zm_23) 15 rfl rfl (by decide) rfl rfl ⟨rfl, Nat.le_of_ble_eq_true rfl⟩ rfl ?_
  refine zz_E.n 1 rfl rfl rfl ?_
  refine zz_E.n 4 rfl rfl rfl ?_
  refine zz_E.n 5 rfl rfl rfl ?_
  refine zz_E.n 6 rfl rfl rfl ?_
  refine zz_E.jf 9 rfl (by rfl) (by decide) rfl ?_
  refine zz_E.n 10 rfl rfl rfl ?_
  refine zz_E.n 21 rfl rfl rfl ?_
  refine zz_E.ret rfl rfl rfl ?_
  refine zz_E.n 16 rfl rfl rfl ?_
  refine zz_E.kf 19 rfl (by rfl) (by decide) rfl ?_
  refine zz_E.n 20 rfl rfl rfl ?_
  refine zz_E.ret rfl rfl rfl ?_
  refine zz_E.n 467 rfl rfl rfl ?_
  refine zz_E.n 468 rfl rfl rfl ?_
  refine zz_E.n 469 rfl rfl rfl ?_
  refine zz_E.n 470 rfl rfl rfl ?_
  refine zz_E.n 471 rfl rfl rfl ?_
  refine zz_E.n 472 rfl rfl rfl ?_
  refine zz_E.cl (M' := zm_78) 475 rfl rfl (by decide) rfl rfl ⟨rfl, Nat.le_of_ble_eq_true rfl⟩ rfl ?_
  refine zz_E.n 1 rfl rfl rfl ?_
  refine zz_E.cl (M' := zm_73) 4 rfl rfl (by decide) rfl rfl ⟨rfl, Nat.le_of_ble_eq_true rfl⟩ rfl ?_
  refine zz_E.n 1 rfl rfl rfl ?_
  refine zz_E.jf 4 rfl (by rfl) (by decide) rfl ?_
  refine zz_E.n 5 rfl rfl rfl ?_
  refine zz_E.n 7 rfl rfl rfl ?_
  refine zz_E.kf 10 rfl (by rfl) (by decide) rfl ?_
  refine zz_E.n 11 rfl rfl rfl ?_
  refine zz_E.n 15 rfl rfl rfl ?_
  refine zz_E.ret rfl rfl rfl ?_
  refine zz_E.jf 7 rfl (by rfl) (by decide) rfl ?_
  refine zz_E.n 8 rfl rfl rfl ?_
  refine zz_E.n 11 rfl rfl rfl ?_
  refine zz_E.n 14 rfl rfl rfl ?_
  refine zz_E.n 15 rfl rfl rfl ?_
  refine zz_E.n 16 rfl rfl rfl ?_
  refine zz_E.n 17 rfl rfl rfl ?_
  refine zz_E.n 18 rfl rfl rfl ?_
  refine zz_E.kf 21 rfl (by rfl) (by decide) rfl ?_
  refine zz_E.n 22 rfl rfl rfl ?_
  refine zz_E.ret rfl rfl rfl ?_
  refine zz_E.kt 652 rfl (by rfl) (by decide) rfl ?_
  refine zz_E.n 655 rfl rfl rfl ?_
  refine zz_E.n 18 rfl rfl rfl ?_
  refine zz_E.n 19 rfl rfl rfl ?_
  refine zz_E.n 20 rfl rfl rfl ?_
  refine zz_E.n 21 rfl rfl rfl ?_
  refine zz_E.n 23 rfl rfl rfl ?_
  refine zz_E.n 24 rfl rfl rfl ?_
  refine zz_E.kt 658 rfl (by rfl) (by decide) rfl ?_
  refine zz_E.n 659 rfl rfl rfl ?_
  refine zz_E.ret rfl rfl rfl ?_
  exact ⟨rfl, by decide +kernel, by decide +kernel⟩
set_option maxRecDepth 100000 in
set_option maxHeartbeats 8000000 in
theorem zv_k12_0 (xs : Nat → Int32) : zz_E zp_P zt_tf zt_fd (zt_X 6 (fun q => if q = 1 then nI 0 else xs q)) 1000 zm_law 33 zv_L [.int (nI 12)] zv_h zv_Q := by
  refine zz_E.n 480 rfl rfl rfl ?_
  refine zz_E.n 481 rfl rfl rfl ?_
  refine zz_E.n 482 rfl rfl rfl ?_
  refine zz_E.n 483 rfl rfl rfl ?_
  refine zz_E.n 484 rfl rfl rfl ?_
  refine zz_E.n 485 rfl rfl rfl ?_
  refine zz_E.n 486 rfl rfl rfl ?_
  refine zz_E.cl (M' := zm_14) 489 rfl rfl (by decide) rfl rfl ⟨rfl, Nat.le_of_ble_eq_true rfl⟩ rfl ?_
  refine zz_E.n 1 rfl rfl rfl ?_
  refine zz_E.cl (M' := zm_21) 4 rfl rfl (by decide) rfl rfl ⟨rfl, Nat.le_of_ble_eq_true rfl⟩ rfl ?_
  refine zz_E.n 1 rfl rfl rfl ?_
  refine zz_E.jf 4 rfl (by rfl) (by decide) rfl ?_
  refine zz_E.n 5 rfl rfl rfl ?_
  refine zz_E.n 7 rfl rfl rfl ?_
  refine zz_E.kf 10 rfl (by rfl) (by decide) rfl ?_
  refine zz_E.n 11 rfl rfl rfl ?_
  refine zz_E.n 15 rfl rfl rfl ?_
  refine zz_E.ret rfl rfl rfl ?_
  refine zz_E.jf 7 rfl (by rfl) (by decide) rfl ?_
  refine zz_E.n 8 rfl rfl rfl ?_
  refine zz_E.n 11 rfl rfl rfl ?_
  refine zz_E.n 12 rfl rfl rfl ?_
  refine zz_E.cl (M' := zm_23) 15 rfl rfl (by decide) rfl rfl ⟨rfl, Nat.le_of_ble_eq_true rfl⟩ rfl ?_
  refine zz_E.n 1 rfl rfl rfl ?_
  refine zz_E.n 4 rfl rfl rfl ?_
  refine zz_E.n 5 rfl rfl rfl ?_
  refine zz_E.n 6 rfl rfl rfl ?_
  refine zz_E.jf 9 rfl (by rfl) (by decide) rfl ?_
  refine zz_E.n 10 rfl rfl rfl ?_
  refine zz_E.n 21 rfl rfl rfl ?_
  refine zz_E.ret rfl rfl rfl ?_
  refine zz_E.n 19 rfl rfl rfl ?_
  refine zz_E.ret rfl rfl rfl ?_
  refine zz_E.n 490 rfl rfl rfl ?_
  refine zz_E.n 491 rfl rfl rfl ?_
  refine zz_E.n 492 rfl rfl rfl ?_
  refine zz_E.n 493 rfl rfl rfl ?_
  refine zz_E.n 494 rfl rfl rfl ?_
  refine zz_E.n 495 rfl rfl rfl ?_
  refine zz_E.cl (M' := zm_79) 498 rfl rfl (by decide) rfl rfl ⟨rfl, Nat.le_of_ble_eq_true rfl⟩ rfl ?_
  refine zz_E.n 1 rfl rfl rfl ?_
  refine zz_E.cl (M' := zm_73) 4 rfl rfl (by decide) rfl rfl ⟨rfl, Nat.le_of_ble_eq_true rfl⟩ rfl ?_
  refine zz_E.n 1 rfl rfl rfl ?_
  refine zz_E.jf 4 rfl (by rfl) (by decide) rfl ?_
  refine zz_E.n 5 rfl rfl rfl ?_
  refine zz_E.n 7 rfl rfl rfl ?_
  refine zz_E.kf 10 rfl (by rfl) (by decide) rfl ?_
  refine zz_E.n 11 rfl rfl rfl ?_
  refine zz_E.n 15 rfl rfl rfl ?_
  refine zz_E.ret rfl rfl rfl ?_
  refine zz_E.jf 7 rfl (by rfl) (by decide) rfl ?_
  refine zz_E.n 8 rfl rfl rfl ?_
  refine zz_E.n 11 rfl rfl rfl ?_
  refine zz_E.n 14 rfl rfl rfl ?_
  refine zz_E.n 15 rfl rfl rfl ?_
  refine zz_E.n 16 rfl rfl rfl ?_
  refine zz_E.n 17 rfl rfl rfl ?_
  refine zz_E.n 21 rfl rfl rfl ?_
  refine zz_E.ret rfl rfl rfl ?_
  refine zz_E.kt 652 rfl (by rfl) (by decide) rfl ?_
  refine zz_E.n 655 rfl rfl rfl ?_
  refine zz_E.n 18 rfl rfl rfl ?_
  refine zz_E.n 19 rfl rfl rfl ?_
  refine zz_E.n 20 rfl rfl rfl ?_
  refine zz_E.n 21 rfl rfl rfl ?_
  refine zz_E.n 23 rfl rfl rfl ?_
  refine zz_E.n 24 rfl rfl rfl ?_
  refine zz_E.kt 658 rfl (by rfl) (by decide) rfl ?_
  refine zz_E.n 659 rfl rfl rfl ?_
  refine zz_E.ret rfl rfl rfl ?_
  exact ⟨rfl, by decide +kernel, by decide +kernel⟩
set_option maxRecDepth 100000 in
set_option maxHeartbeats 8000000 in
theorem zv_k12_1 (xs : Nat → Int32) : zz_E zp_P zt_tf zt_fd (zt_X 6 (fun q => if q = 1 then nI 1 else xs q)) 1000 zm_law 33 zv_L [.int (nI 12)] zv_h zv_Q := by
  refine zz_E.n 480 rfl rfl rfl ?_
  refine zz_E.n 481 rfl rfl rfl ?_
  refine zz_E.n 482 rfl rfl rfl ?_
  refine zz_E.n 483 rfl rfl rfl ?_
  refine zz_E.n 484 rfl rfl rfl ?_
  refine zz_E.n 485 rfl rfl rfl ?_
  refine zz_E.n 486 rfl rfl rfl ?_
  refine zz_E.cl (M' := zm_14) 489 rfl rfl (by decide) rfl rfl ⟨rfl, Nat.le_of_ble_eq_true rfl⟩ rfl ?_
  refine zz_E.n 1 rfl rfl rfl ?_
  refine zz_E.cl (M' := zm_21) 4 rfl rfl (by decide) rfl rfl ⟨rfl, Nat.le_of_ble_eq_true rfl⟩ rfl ?_
  refine zz_E.n 1 rfl rfl rfl ?_
  refine zz_E.jf 4 rfl (by rfl) (by decide) rfl ?_
  refine zz_E.n 5 rfl rfl rfl ?_
  refine zz_E.n 7 rfl rfl rfl ?_
  refine zz_E.kf 10 rfl (by rfl) (by decide) rfl ?_
  refine zz_E.n 11 rfl rfl rfl ?_
  refine zz_E.n 15 rfl rfl rfl ?_
  refine zz_E.ret rfl rfl rfl ?_
  refine zz_E.jf 7 rfl (by rfl) (by decide) rfl ?_
  refine zz_E.n 8 rfl rfl rfl ?_
  refine zz_E.n 11 rfl rfl rfl ?_
  refine zz_E.n 12 rfl rfl rfl ?_
  refine zz_E.cl (M' := zm_23) 15 rfl rfl (by decide) rfl rfl ⟨rfl, Nat.le_of_ble_eq_true rfl⟩ rfl ?_
  refine zz_E.n 1 rfl rfl rfl ?_
  refine zz_E.n 4 rfl rfl rfl ?_
  refine zz_E.n 5 rfl rfl rfl ?_
  refine zz_E.n 6 rfl rfl rfl ?_
  refine zz_E.jf 9 rfl (by rfl) (by decide) rfl ?_
  refine zz_E.n 10 rfl rfl rfl ?_
  refine zz_E.n 21 rfl rfl rfl ?_
  refine zz_E.ret rfl rfl rfl ?_
  refine zz_E.n 19 rfl rfl rfl ?_
  refine zz_E.ret rfl rfl rfl ?_
  refine zz_E.n 490 rfl rfl rfl ?_
  refine zz_E.n 491 rfl rfl rfl ?_
  refine zz_E.n 492 rfl rfl rfl ?_
  refine zz_E.n 493 rfl rfl rfl ?_
  refine zz_E.n 494 rfl rfl rfl ?_
  refine zz_E.n 495 rfl rfl rfl ?_
  refine zz_E.cl (M' := zm_79) 498 rfl rfl (by decide) rfl rfl ⟨rfl, Nat.le_of_ble_eq_true rfl⟩ rfl ?_
  refine zz_E.n 1 rfl rfl rfl ?_
  refine zz_E.cl (M' := zm_73) 4 rfl rfl (by decide) rfl rfl ⟨rfl, Nat.le_of_ble_eq_true rfl⟩ rfl ?_
  refine zz_E.n 1 rfl rfl rfl ?_
  refine zz_E.jf 4 rfl (by rfl) (by decide) rfl ?_
  refine zz_E.n 5 rfl rfl rfl ?_
  refine zz_E.n 7 rfl rfl rfl ?_
  refine zz_E.kf 10 rfl (by rfl) (by decide) rfl ?_
  refine zz_E.n 11 rfl rfl rfl ?_
  refine zz_E.n 15 rfl rfl rfl ?_
  refine zz_E.ret rfl rfl rfl ?_
  refine zz_E.jf 7 rfl (by rfl) (by decide) rfl ?_
  refine zz_E.n 8 rfl rfl rfl ?_
  refine zz_E.n 11 rfl rfl rfl ?_
  refine zz_E.n 14 rfl rfl rfl ?_
  refine zz_E.n 15 rfl rfl rfl ?_
  refine zz_E.n 16 rfl rfl rfl ?_
  refine zz_E.n 17 rfl rfl rfl ?_
  refine zz_E.n 21 rfl rfl rfl ?_
  refine zz_E.ret rfl rfl rfl ?_
  refine zz_E.kt 652 rfl (by rfl) (by decide) rfl ?_
  refine zz_E.n 655 rfl rfl rfl ?_
  refine zz_E.n 18 rfl rfl rfl ?_
  refine zz_E.n 19 rfl rfl rfl ?_
  refine zz_E.n 20 rfl rfl rfl ?_
  refine zz_E.n 21 rfl rfl rfl ?_
  refine zz_E.n 23 rfl rfl rfl ?_
  refine zz_E.n 24 rfl rfl rfl ?_
  refine zz_E.kt 658 rfl (by rfl) (by decide) rfl ?_
  refine zz_E.n 659 rfl rfl rfl ?_
  refine zz_E.ret rfl rfl rfl ?_
  exact ⟨rfl, by decide +kernel, by decide +kernel⟩
set_option maxRecDepth 100000 in
set_option maxHeartbeats 8000000 in
theorem zv_k12_2 (xs : Nat → Int32) : zz_E zp_P zt_tf zt_fd (zt_X 6 (fun q => if q = 1 then nI 2 else xs q)) 1000 zm_law 33 zv_L [.int (nI 12)] zv_h zv_Q := by
  refine zz_E.n 480 rfl rfl rfl ?_
  refine zz_E.n 481 rfl rfl rfl ?_
  refine zz_E.n 482 rfl rfl rfl ?_
  refine zz_E.n 483 rfl rfl rfl ?_
  refine zz_E.n 484 rfl rfl rfl ?_
  refine zz_E.n 485 rfl rfl rfl ?_
  refine zz_E.n 486 rfl rfl rfl ?_
  refine zz_E.cl (M' := zm_14) 489 rfl rfl (by decide) rfl rfl ⟨rfl, Nat.le_of_ble_eq_true rfl⟩ rfl ?_
  refine zz_E.n 1 rfl rfl rfl ?_
  refine zz_E.cl (M' := zm_21) 4 rfl rfl (by decide) rfl rfl ⟨rfl, Nat.le_of_ble_eq_true rfl⟩ rfl ?_
  refine zz_E.n 1 rfl rfl rfl ?_
  refine zz_E.jf 4 rfl (by rfl) (by decide) rfl ?_
  refine zz_E.n 5 rfl rfl rfl ?_
  refine zz_E.n 7 rfl rfl rfl ?_
  refine zz_E.kf 10 rfl (by rfl) (by decide) rfl ?_
  refine zz_E.n 11 rfl rfl rfl ?_
  refine zz_E.n 15 rfl rfl rfl ?_
  refine zz_E.ret rfl rfl rfl ?_
  refine zz_E.jf 7 rfl (by rfl) (by decide) rfl ?_
  refine zz_E.n 8 rfl rfl rfl ?_
  refine zz_E.n 11 rfl rfl rfl ?_
  refine zz_E.n 12 rfl rfl rfl ?_
  refine zz_E.cl (M' := zm_23) 15 rfl rfl (by decide) rfl rfl ⟨rfl, Nat.le_of_ble_eq_true rfl⟩ rfl ?_
  refine zz_E.n 1 rfl rfl rfl ?_
  refine zz_E.n 4 rfl rfl rfl ?_
  refine zz_E.n 5 rfl rfl rfl ?_
  refine zz_E.n 6 rfl rfl rfl ?_
  refine zz_E.jf 9 rfl (by rfl) (by decide) rfl ?_
  refine zz_E.n 10 rfl rfl rfl ?_
  refine zz_E.n 21 rfl rfl rfl ?_
  refine zz_E.ret rfl rfl rfl ?_
  refine zz_E.n 19 rfl rfl rfl ?_
  refine zz_E.ret rfl rfl rfl ?_
  refine zz_E.n 490 rfl rfl rfl ?_
  refine zz_E.n 491 rfl rfl rfl ?_
  refine zz_E.n 492 rfl rfl rfl ?_
  refine zz_E.n 493 rfl rfl rfl ?_
  refine zz_E.n 494 rfl rfl rfl ?_
  refine zz_E.n 495 rfl rfl rfl ?_
  refine zz_E.cl (M' := zm_79) 498 rfl rfl (by decide) rfl rfl ⟨rfl, Nat.le_of_ble_eq_true rfl⟩ rfl ?_
  refine zz_E.n 1 rfl rfl rfl ?_
  refine zz_E.cl (M' := zm_73) 4 rfl rfl (by decide) rfl rfl ⟨rfl, Nat.le_of_ble_eq_true rfl⟩ rfl ?_
  refine zz_E.n 1 rfl rfl rfl ?_
  refine zz_E.jf 4 rfl (by rfl) (by decide) rfl ?_
  refine zz_E.n 5 rfl rfl rfl ?_
  refine zz_E.n 7 rfl rfl rfl ?_
  refine zz_E.kf 10 rfl (by rfl) (by decide) rfl ?_
  refine zz_E.n 11 rfl rfl rfl ?_
  refine zz_E.n 15 rfl rfl rfl ?_
  refine zz_E.ret rfl rfl rfl ?_
  refine zz_E.jf 7 rfl (by rfl) (by decide) rfl ?_
  refine zz_E.n 8 rfl rfl rfl ?_
  refine zz_E.n 11 rfl rfl rfl ?_
  refine zz_E.n 14 rfl rfl rfl ?_
  refine zz_E.n 15 rfl rfl rfl ?_
  refine zz_E.n 16 rfl rfl rfl ?_
  refine zz_E.n 17 rfl rfl rfl ?_
  refine zz_E.n 21 rfl rfl rfl ?_
  refine zz_E.ret rfl rfl rfl ?_
  refine zz_E.kt 652 rfl (by rfl) (by decide) rfl ?_
  refine zz_E.n 655 rfl rfl rfl ?_
  refine zz_E.n 18 rfl rfl rfl ?_
  refine zz_E.n 19 rfl rfl rfl ?_
  refine zz_E.n 20 rfl rfl rfl ?_
  refine zz_E.n 21 rfl rfl rfl ?_
  refine zz_E.n 23 rfl rfl rfl ?_
  refine zz_E.n 24 rfl rfl rfl ?_
  refine zz_E.kt 658 rfl (by rfl) (by decide) rfl ?_
  refine zz_E.n 659 rfl rfl rfl ?_
  refine zz_E.ret rfl rfl rfl ?_
  exact ⟨rfl, by decide +kernel, by decide +kernel⟩
set_option maxRecDepth 100000 in
set_option maxHeartbeats 8000000 in
theorem zv_k12_3 (xs : Nat → Int32) : zz_E zp_P zt_tf zt_fd (zt_X 6 (fun q => if q = 1 then nI 3 else xs q)) 1000 zm_law 33 zv_L [.int (nI 12)] zv_h zv_Q := by
  refine zz_E.n 480 rfl rfl rfl ?_
  refine zz_E.n 481 rfl rfl rfl ?_
  refine zz_E.n 482 rfl rfl rfl ?_
  refine zz_E.n 483 rfl rfl rfl ?_
  refine zz_E.n 484 rfl rfl rfl ?_
  refine zz_E.n 485 rfl rfl rfl ?_
  refine zz_E.n 486 rfl rfl rfl ?_
  refine zz_E.cl (M' := zm_14) 489 rfl rfl (by decide) rfl rfl ⟨rfl, Nat.le_of_ble_eq_true rfl⟩ rfl ?_
  refine zz_E.n 1 rfl rfl rfl ?_
  refine zz_E.cl (M' := zm_21) 4 rfl rfl (by decide) rfl rfl ⟨rfl, Nat.le_of_ble_eq_true rfl⟩ rfl ?_
  refine zz_E.n 1 rfl rfl rfl ?_
  refine zz_E.jf 4 rfl (by rfl) (by decide) rfl ?_
  refine zz_E.n 5 rfl rfl rfl ?_
  refine zz_E.n 7 rfl rfl rfl ?_
  refine zz_E.kf 10 rfl (by rfl) (by decide) rfl ?_
  refine zz_E.n 11 rfl rfl rfl ?_
  refine zz_E.n 15 rfl rfl rfl ?_
  refine zz_E.ret rfl rfl rfl ?_
  refine zz_E.jf 7 rfl (by rfl) (by decide) rfl ?_
  refine zz_E.n 8 rfl rfl rfl ?_
  refine zz_E.n 11 rfl rfl rfl ?_
  refine zz_E.n 12 rfl rfl rfl ?_
  refine zz_E.cl (M' := zm_23) 15 rfl rfl (by decide) rfl rfl ⟨rfl, Nat.le_of_ble_eq_true rfl⟩ rfl ?_
  refine zz_E.n 1 rfl rfl rfl ?_
  refine zz_E.n 4 rfl rfl rfl ?_
  refine zz_E.n 5 rfl rfl rfl ?_
  refine zz_E.n 6 rfl rfl rfl ?_
  refine zz_E.jf 9 rfl (by rfl) (by decide) rfl ?_
  refine zz_E.n 10 rfl rfl rfl ?_
  refine zz_E.n 21 rfl rfl rfl ?_
  refine zz_E.ret rfl rfl rfl ?_
  refine zz_E.n 19 rfl rfl rfl ?_
  refine zz_E.ret rfl rfl rfl ?_
  refine zz_E.n 490 rfl rfl rfl ?_
  refine zz_E.n 491 rfl rfl rfl ?_
  refine zz_E.n 492 rfl rfl rfl ?_
  refine zz_E.n 493 rfl rfl rfl ?_
  refine zz_E.n 494 rfl rfl rfl ?_
  refine zz_E.n 495 rfl rfl rfl ?_
  refine zz_E.cl (M' := zm_79) 498 rfl rfl (by decide) rfl rfl ⟨rfl, Nat.le_of_ble_eq_true rfl⟩ rfl ?_
  refine zz_E.n 1 rfl rfl rfl ?_
  refine zz_E.cl (M' := zm_73) 4 rfl rfl (by decide) rfl rfl ⟨rfl, Nat.le_of_ble_eq_true rfl⟩ rfl ?_
  refine zz_E.n 1 rfl rfl rfl ?_
  refine zz_E.jf 4 rfl (by rfl) (by decide) rfl ?_
  refine zz_E.n 5 rfl rfl rfl ?_
  refine zz_E.n 7 rfl rfl rfl ?_
  refine zz_E.kf 10 rfl (by rfl) (by decide) rfl ?_
  refine zz_E.n 11 rfl rfl rfl ?_
  refine zz_E.n 15 rfl rfl rfl ?_
  refine zz_E.ret rfl rfl rfl ?_
  refine zz_E.jf 7 rfl (by rfl) (by decide) rfl ?_
  refine zz_E.n 8 rfl rfl rfl ?_
  refine zz_E.n 11 rfl rfl rfl ?_
  refine zz_E.n 14 rfl rfl rfl ?_
  refine zz_E.n 15 rfl rfl rfl ?_
  refine zz_E.n 16 rfl rfl rfl ?_
  refine zz_E.n 17 rfl rfl rfl ?_
  refine zz_E.n 21 rfl rfl rfl ?_
  refine zz_E.ret rfl rfl rfl ?_
  refine zz_E.kt 652 rfl (by rfl) (by decide) rfl ?_
  refine zz_E.n 655 rfl rfl rfl ?_
  refine zz_E.n 18 rfl rfl rfl ?_
  refine zz_E.n 19 rfl rfl rfl ?_
  refine zz_E.n 20 rfl rfl rfl ?_
  refine zz_E.n 21 rfl rfl rfl ?_
  refine zz_E.n 23 rfl rfl rfl ?_
  refine zz_E.n 24 rfl rfl rfl ?_
  refine zz_E.kt 658 rfl (by rfl) (by decide) rfl ?_
  refine zz_E.n 659 rfl rfl rfl ?_
  refine zz_E.ret rfl rfl rfl ?_
  exact ⟨rfl, by decide +kernel, by decide +kernel⟩
set_option maxRecDepth 100000 in
set_option maxHeartbeats 8000000 in
theorem zv_k12_4 (xs : Nat → Int32) : zz_E zp_P zt_tf zt_fd (zt_X 6 (fun q => if q = 1 then nI 4 else xs q)) 1000 zm_law 33 zv_L [.int (nI 12)] zv_h zv_Q := by
  refine zz_E.n 480 rfl rfl rfl ?_
  refine zz_E.n 481 rfl rfl rfl ?_
  refine zz_E.n 482 rfl rfl rfl ?_
  refine zz_E.n 483 rfl rfl rfl ?_
  refine zz_E.n 484 rfl rfl rfl ?_
  refine zz_E.n 485 rfl rfl rfl ?_
  refine zz_E.n 486 rfl rfl rfl ?_
  refine zz_E.cl (M' := zm_14) 489 rfl rfl (by decide) rfl rfl ⟨rfl, Nat.le_of_ble_eq_true rfl⟩ rfl ?_
  refine zz_E.n 1 rfl rfl rfl ?_
  refine zz_E.cl (M' := zm_21) 4 rfl rfl (by decide) rfl rfl ⟨rfl, Nat.le_of_ble_eq_true rfl⟩ rfl ?_
  refine zz_E.n 1 rfl rfl rfl ?_
  refine zz_E.jf 4 rfl (by rfl) (by decide) rfl ?_
  refine zz_E.n 5 rfl rfl rfl ?_
  refine zz_E.n 7 rfl rfl rfl ?_
  refine zz_E.kf 10 rfl (by rfl) (by decide) rfl ?_
  refine zz_E.n 11 rfl rfl rfl ?_
  refine zz_E.n 15 rfl rfl rfl ?_
  refine zz_E.ret rfl rfl rfl ?_
  refine zz_E.jf 7 rfl (by rfl) (by decide) rfl ?_
  refine zz_E.n 8 rfl rfl rfl ?_
  refine zz_E.n 11 rfl rfl rfl ?_
  refine zz_E.n 12 rfl rfl rfl ?_
  refine zz_E.cl (M' := zm_23) 15 rfl rfl (by decide) rfl rfl ⟨rfl, Nat.le_of_ble_eq_true rfl⟩ rfl ?_
  refine zz_E.n 1 rfl rfl rfl ?_
  refine zz_E.n 4 rfl rfl rfl ?_
  refine zz_E.n 5 rfl rfl rfl ?_
  refine zz_E.n 6 rfl rfl rfl ?_
  refine zz_E.jf 9 rfl (by rfl) (by decide) rfl ?_
  refine zz_E.n 10 rfl rfl rfl ?_
  refine zz_E.n 21 rfl rfl rfl ?_
  refine zz_E.ret rfl rfl rfl ?_
  refine zz_E.n 19 rfl rfl rfl ?_
  refine zz_E.ret rfl rfl rfl ?_
  refine zz_E.n 490 rfl rfl rfl ?_
  refine zz_E.n 491 rfl rfl rfl ?_
  refine zz_E.n 492 rfl rfl rfl ?_
  refine zz_E.n 493 rfl rfl rfl ?_
  refine zz_E.n 494 rfl rfl rfl ?_
  refine zz_E.n 495 rfl rfl rfl ?_
  refine zz_E.cl (M' := zm_79) 498 rfl rfl (by decide) rfl rfl ⟨rfl, Nat.le_of_ble_eq_true rfl⟩ rfl ?_
  refine zz_E.n 1 rfl rfl rfl ?_
  refine zz_E.cl (M' := zm_73) 4 rfl rfl (by decide) rfl rfl ⟨rfl, Nat.le_of_ble_eq_true rfl⟩ rfl ?_
  refine zz_E.n 1 rfl rfl rfl ?_
  refine zz_E.jf 4 rfl (by rfl) (by decide) rfl ?_
  refine zz_E.n 5 rfl rfl rfl ?_
  refine zz_E.n 7 rfl rfl rfl ?_
  refine zz_E.kf 10 rfl (by rfl) (by decide) rfl ?_
  refine zz_E.n 11 rfl rfl rfl ?_
  refine zz_E.n 15 rfl rfl rfl ?_
  refine zz_E.ret rfl rfl rfl ?_
  refine zz_E.jf 7 rfl (by rfl) (by decide) rfl ?_
  refine zz_E.n 8 rfl rfl rfl ?_
  refine zz_E.n 11 rfl rfl rfl ?_
  refine zz_E.n 14 rfl rfl rfl ?_
  refine zz_E.n 15 rfl rfl rfl ?_
  refine zz_E.n 16 rfl rfl rfl ?_
  refine zz_E.n 17 rfl rfl rfl ?_
  refine zz_E.n 21 rfl rfl rfl ?_
  refine zz_E.ret rfl rfl rfl ?_
  refine zz_E.kt 652 rfl (by rfl) (by decide) rfl ?_
  refine zz_E.n 655 rfl rfl rfl ?_
  refine zz_E.n 18 rfl rfl rfl ?_
  refine zz_E.n 19 rfl rfl rfl ?_
  refine zz_E.n 20 rfl rfl rfl ?_
  refine zz_E.n 21 rfl rfl rfl ?_
  refine zz_E.n 23 rfl rfl rfl ?_
  refine zz_E.n 24 rfl rfl rfl ?_
  refine zz_E.kt 658 rfl (by rfl) (by decide) rfl ?_
  refine zz_E.n 659 rfl rfl rfl ?_
  refine zz_E.ret rfl rfl rfl ?_
  exact ⟨rfl, by decide +kernel, by decide +kernel⟩
set_option maxRecDepth 100000 in
set_option maxHeartbeats 8000000 in
theorem zv_k12_5 (xs : Nat → Int32) : zz_E zp_P zt_tf zt_fd (zt_X 6 (fun q => if q = 1 then nI 5 else xs q)) 1000 zm_law 33 zv_L [.int (nI 12)] zv_h zv_Q := by
  refine zz_E.n 480 rfl rfl rfl ?_
  refine zz_E.n 481 rfl rfl rfl ?_
  refine zz_E.n 482 rfl rfl rfl ?_
  refine zz_E.n 483 rfl rfl rfl ?_
  refine zz_E.n 484 rfl rfl rfl ?_
  refine zz_E.n 485 rfl rfl rfl ?_
  refine zz_E.n 486 rfl rfl rfl ?_
  refine zz_E.cl (M' := zm_14) 489 rfl rfl (by decide) rfl rfl ⟨rfl, Nat.le_of_ble_eq_true rfl⟩ rfl ?_
  refine zz_E.n 1 rfl rfl rfl ?_
  refine zz_E.cl (M' := zm_21) 4 rfl rfl (by decide) rfl rfl ⟨rfl, Nat.le_of_ble_eq_true rfl⟩ rfl ?_
  refine zz_E.n 1 rfl rfl rfl ?_
  refine zz_E.jf 4 rfl (by rfl) (by decide) rfl ?_
  refine zz_E.n 5 rfl rfl rfl ?_
  refine zz_E.n 7 rfl rfl rfl ?_
  refine zz_E.kf 10 rfl (by rfl) (by decide) rfl ?_
  refine zz_E.n 11 rfl rfl rfl ?_
  refine zz_E.n 15 rfl rfl rfl ?_
  refine zz_E.ret rfl rfl rfl ?_
  refine zz_E.jf 7 rfl (by rfl) (by decide) rfl ?_
  refine zz_E.n 8 rfl rfl rfl ?_
  refine zz_E.n 11 rfl rfl rfl ?_
  refine zz_E.n 12 rfl rfl rfl ?_
  refine zz_E.cl (M' := zm_23) 15 rfl rfl (by decide) rfl rfl ⟨rfl, Nat.le_of_ble_eq_true rfl⟩ rfl ?_
  refine zz_E.n 1 rfl rfl rfl ?_
  refine zz_E.n 4 rfl rfl rfl ?_
  refine zz_E.n 5 rfl rfl rfl ?_
  refine zz_E.n 6 rfl rfl rfl ?_
  refine zz_E.jf 9 rfl (by rfl) (by decide) rfl ?_
  refine zz_E.n 10 rfl rfl rfl ?_
  refine zz_E.n 21 rfl rfl rfl ?_
  refine zz_E.ret rfl rfl rfl ?_
  refine zz_E.n 19 rfl rfl rfl ?_
  refine zz_E.ret rfl rfl rfl ?_
  refine zz_E.n 490 rfl rfl rfl ?_
  refine zz_E.n 491 rfl rfl rfl ?_
  refine zz_E.n 492 rfl rfl rfl ?_
  refine zz_E.n 493 rfl rfl rfl ?_
  refine zz_E.n 494 rfl rfl rfl ?_
  refine zz_E.n 495 rfl rfl rfl ?_
  refine zz_E.cl (M' := zm_79) 498 rfl rfl (by decide) rfl rfl ⟨rfl, Nat.le_of_ble_eq_true rfl⟩ rfl ?_
  refine zz_E.n 1 rfl rfl rfl ?_
  refine zz_E.cl (M' := zm_73) 4 rfl rfl (by decide) rfl rfl ⟨rfl, Nat.le_of_ble_eq_true rfl⟩ rfl ?_
  refine zz_E.n 1 rfl rfl rfl ?_
  refine zz_E.jf 4 rfl (by rfl) (by decide) rfl ?_
  refine zz_E.n 5 rfl rfl rfl ?_
  refine zz_E.n 7 rfl rfl rfl ?_
  refine zz_E.kf 10 rfl (by rfl) (by decide) rfl ?_
  refine zz_E.n 11 rfl rfl rfl ?_
  refine zz_E.n 15 rfl rfl rfl ?_
  refine zz_E.ret rfl rfl rfl ?_
  refine zz_E.jf 7 rfl (by rfl) (by decide) rfl ?_
  refine zz_E.n 8 rfl rfl rfl ?_
  refine zz_E.n 11 rfl rfl rfl ?_
  refine zz_E.n 14 rfl rfl rfl ?_
  refine zz_E.n 15 rfl rfl rfl ?_
  refine zz_E.n 16 rfl rfl rfl ?_
  refine zz_E.n 17 rfl rfl rfl ?_
  refine zz_E.n 21 rfl rfl rfl ?_
  refine zz_E.ret rfl rfl rfl ?_
  refine zz_E.kt 652 rfl (by rfl) (by decide) rfl ?_
  refine zz_E.n 655 rfl rfl rfl ?_
  refine zz_E.n 18 rfl rfl rfl ?_
  refine zz_E.n 19 rfl rfl rfl ?_
  refine zz_E.n 20 rfl rfl rfl ?_
  refine zz_E.n 21 rfl rfl rfl ?_
  refine zz_E.n 23 rfl rfl rfl ?_
  refine zz_E.n 24 rfl rfl rfl ?_
  refine zz_E.kt 658 rfl (by rfl) (by decide) rfl ?_
  refine zz_E.n 659 rfl rfl rfl ?_
  refine zz_E.ret rfl rfl rfl ?_
  exact ⟨rfl, by decide +kernel, by decide +kernel⟩
set_option maxRecDepth 100000 in
set_option maxHeartbeats 8000000 in
theorem zv_k12_6 (xs : Nat → Int32) : zz_E zp_P zt_tf zt_fd (zt_X 6 (fun q => if q = 1 then nI 6 else xs q)) 1000 zm_law 33 zv_L [.int (nI 12)] zv_h zv_Q := by
  refine zz_E.n 480 rfl rfl rfl ?_
  refine zz_E.n 481 rfl rfl rfl ?_
  refine zz_E.n 482 rfl rfl rfl ?_
  refine zz_E.n 483 rfl rfl rfl ?_
  refine zz_E.n 484 rfl rfl rfl ?_
  refine zz_E.n 485 rfl rfl rfl ?_
  refine zz_E.n 486 rfl rfl rfl ?_
  refine zz_E.cl (M' := zm_14) 489 rfl rfl (by decide) rfl rfl ⟨rfl, Nat.le_of_ble_eq_true rfl⟩ rfl ?_
  refine zz_E.n 1 rfl rfl rfl ?_
  refine zz_E.cl (M' := zm_21) 4 rfl rfl (by decide) rfl rfl ⟨rfl, Nat.le_of_ble_eq_true rfl⟩ rfl ?_
  refine zz_E.n 1 rfl rfl rfl ?_
  refine zz_E.jf 4 rfl (by rfl) (by decide) rfl ?_
  refine zz_E.n 5 rfl rfl rfl ?_
  refine zz_E.n 7 rfl rfl rfl ?_
  refine zz_E.kf 10 rfl (by rfl) (by decide) rfl ?_
  refine zz_E.n 11 rfl rfl rfl ?_
  refine zz_E.n 15 rfl rfl rfl ?_
  refine zz_E.ret rfl rfl rfl ?_
  refine zz_E.jf 7 rfl (by rfl) (by decide) rfl ?_
  refine zz_E.n 8 rfl rfl rfl ?_
  refine zz_E.n 11 rfl rfl rfl ?_
  refine zz_E.n 12 rfl rfl rfl ?_
  refine zz_E.cl (M' := zm_23) 15 rfl rfl (by decide) rfl rfl ⟨rfl, Nat.le_of_ble_eq_true rfl⟩ rfl ?_
  refine zz_E.n 1 rfl rfl rfl ?_
  refine zz_E.n 4 rfl rfl rfl ?_
  refine zz_E.n 5 rfl rfl rfl ?_
  refine zz_E.n 6 rfl rfl rfl ?_
  refine zz_E.jf 9 rfl (by rfl) (by decide) rfl ?_
  refine zz_E.n 10 rfl rfl rfl ?_
  refine zz_E.n 21 rfl rfl rfl ?_
  refine zz_E.ret rfl rfl rfl ?_
  refine zz_E.n 19 rfl rfl rfl ?_
  refine zz_E.ret rfl rfl rfl ?_
  refine zz_E.n 490 rfl rfl rfl ?_
  refine zz_E.n 491 rfl rfl rfl ?_
  refine zz_E.n 492 rfl rfl rfl ?_
  refine zz_E.n 493 rfl rfl rfl ?_
  refine zz_E.n 494 rfl rfl rfl ?_
  refine zz_E.n 495 rfl rfl rfl ?_
  refine zz_E.cl (M' := zm_79) 498 rfl rfl (by decide) rfl rfl ⟨rfl, Nat.le_of_ble_eq_true rfl⟩ rfl ?_
  refine zz_E.n 1 rfl rfl rfl ?_
  refine zz_E.cl (M' := zm_73) 4 rfl rfl (by decide) rfl rfl ⟨rfl, Nat.le_of_ble_eq_true rfl⟩ rfl ?_
  refine zz_E.n 1 rfl rfl rfl ?_
  refine zz_E.jf 4 rfl (by rfl) (by decide) rfl ?_
  refine zz_E.n 5 rfl rfl rfl ?_
  refine zz_E.n 7 rfl rfl rfl ?_
  refine zz_E.kf 10 rfl (by rfl) (by decide) rfl ?_
  refine zz_E.n 11 rfl rfl rfl ?_
  refine zz_E.n 15 rfl rfl rfl ?_
  refine zz_E.ret rfl rfl rfl ?_
  refine zz_E.jf 7 rfl (by rfl) (by decide) rfl ?_
  refine zz_E.n 8 rfl rfl rfl ?_
  refine zz_E.n 11 rfl rfl rfl ?_
  refine zz_E.n 14 rfl rfl rfl ?_
  refine zz_E.n 15 rfl rfl rfl ?_
  refine zz_E.n 16 rfl rfl rfl ?_
  refine zz_E.n 17 rfl rfl rfl ?_
  refine zz_E.n 21 rfl rfl rfl ?_
  refine zz_E.ret rfl rfl rfl ?_
  refine zz_E.kt 652 rfl (by rfl) (by decide) rfl ?_
  refine zz_E.n 655 rfl rfl rfl ?_
  refine zz_E.n 18 rfl rfl rfl ?_
  refine zz_E.n 19 rfl rfl rfl ?_
  refine zz_E.n 20 rfl rfl rfl ?_
  refine zz_E.n 21 rfl rfl rfl ?_
  refine zz_E.n 23 rfl rfl rfl ?_
  refine zz_E.n 24 rfl rfl rfl ?_
  refine zz_E.kt 658 rfl (by rfl) (by decide) rfl ?_
  refine zz_E.n 659 rfl rfl rfl ?_
  refine zz_E.ret rfl rfl rfl ?_
  exact ⟨rfl, by decide +kernel, by decide +kernel⟩
set_option maxRecDepth 100000 in
set_option maxHeartbeats 8000000 in
theorem zv_k12_7 (xs : Nat → Int32) : zz_E zp_P zt_tf zt_fd (zt_X 6 (fun q => if q = 1 then nI 7 else xs q)) 1000 zm_law 33 zv_L [.int (nI 12)] zv_h zv_Q := by
  refine zz_E.n 480 rfl rfl rfl ?_
  refine zz_E.n 481 rfl rfl rfl ?_
  refine zz_E.n 482 rfl rfl rfl ?_
  refine zz_E.n 483 rfl rfl rfl ?_
  refine zz_E.n 484 rfl rfl rfl ?_
  refine zz_E.n 485 rfl rfl rfl ?_
  refine zz_E.n 486 rfl rfl rfl ?_
  refine zz_E.cl (M' := zm_14) 489 rfl rfl (by decide) rfl rfl ⟨rfl, Nat.le_of_ble_eq_true rfl⟩ rfl ?_
  refine zz_E.n 1 rfl rfl rfl ?_
  refine zz_E.cl (M' := zm_21) 4 rfl rfl (by decide) rfl rfl ⟨rfl, Nat.le_of_ble_eq_true rfl⟩ rfl ?_
  refine zz_E.n 1 rfl rfl rfl ?_
  refine zz_E.jf 4 rfl (by rfl) (by decide) rfl ?_
  refine zz_E.n 5 rfl rfl rfl ?_
  refine zz_E.n 7 rfl rfl rfl ?_
  refine zz_E.kf 10 rfl (by rfl) (by decide) rfl ?_
  refine zz_E.n 11 rfl rfl rfl ?_
  refine zz_E.n 15 rfl rfl rfl ?_
  refine zz_E.ret rfl rfl rfl ?_
  refine zz_E.jf 7 rfl (by rfl) (by decide) rfl ?_
  refine zz_E.n 8 rfl rfl rfl ?_
  refine zz_E.n 11 rfl rfl rfl ?_
  refine zz_E.n 12 rfl rfl rfl ?_
  refine zz_E.cl (M' := zm_23) 15 rfl rfl (by decide) rfl rfl ⟨rfl, Nat.le_of_ble_eq_true rfl⟩ rfl ?_
  refine zz_E.n 1 rfl rfl rfl ?_
  refine zz_E.n 4 rfl rfl rfl ?_
  refine zz_E.n 5 rfl rfl rfl ?_
  refine zz_E.n 6 rfl rfl rfl ?_
  refine zz_E.jf 9 rfl (by rfl) (by decide) rfl ?_
  refine zz_E.n 10 rfl rfl rfl ?_
  refine zz_E.n 21 rfl rfl rfl ?_
  refine zz_E.ret rfl rfl rfl ?_
  refine zz_E.n 19 rfl rfl rfl ?_
  refine zz_E.ret rfl rfl rfl ?_
  refine zz_E.n 490 rfl rfl rfl ?_
  refine zz_E.n 491 rfl rfl rfl ?_
  refine zz_E.n 492 rfl rfl rfl ?_
  refine zz_E.n 493 rfl rfl rfl ?_
  refine zz_E.n 494 rfl rfl rfl ?_
  refine zz_E.n 495 rfl rfl rfl ?_
  refine zz_E.cl (M' := zm_79) 498 rfl rfl (by decide) rfl rfl ⟨rfl, Nat.le_of_ble_eq_true rfl⟩ rfl ?_
  refine zz_E.n 1 rfl rfl rfl ?_
  refine zz_E.cl (M' := zm_73) 4 rfl rfl (by decide) rfl rfl ⟨rfl, Nat.le_of_ble_eq_true rfl⟩ rfl ?_
  refine zz_E.n 1 rfl rfl rfl ?_
  refine zz_E.jf 4 rfl (by rfl) (by decide) rfl ?_
  refine zz_E.n 5 rfl rfl rfl ?_
  refine zz_E.n 7 rfl rfl rfl ?_
  refine zz_E.kf 10 rfl (by rfl) (by decide) rfl ?_
  refine zz_E.n 11 rfl rfl rfl ?_
  refine zz_E.n 15 rfl rfl rfl ?_
  refine zz_E.ret rfl rfl rfl ?_
  refine zz_E.jf 7 rfl (by rfl) (by decide) rfl ?_
  refine zz_E.n 8 rfl rfl rfl ?_
  refine zz_E.n 11 rfl rfl rfl ?_
  refine zz_E.n 14 rfl rfl rfl ?_
  refine zz_E.n 15 rfl rfl rfl ?_
  refine zz_E.n 16 rfl rfl rfl ?_
  refine zz_E.n 17 rfl rfl rfl ?_
  refine zz_E.n 21 rfl rfl rfl ?_
  refine zz_E.ret rfl rfl rfl ?_
  refine zz_E.kt 652 rfl (by rfl) (by decide) rfl ?_
  refine zz_E.n 655 rfl rfl rfl ?_
  refine zz_E.n 18 rfl rfl rfl ?_
  refine zz_E.n 19 rfl rfl rfl ?_
  refine zz_E.n 20 rfl rfl rfl ?_
  refine zz_E.n 21 rfl rfl rfl ?_
  refine zz_E.n 23 rfl rfl rfl ?_
  refine zz_E.n 24 rfl rfl rfl ?_
  refine zz_E.kt 658 rfl (by rfl) (by decide) rfl ?_
  refine zz_E.n 659 rfl rfl rfl ?_
  refine zz_E.ret rfl rfl rfl ?_
  exact ⟨rfl, by decide +kernel, by decide +kernel⟩
set_option maxRecDepth 100000 in
set_option maxHeartbeats 8000000 in
theorem zv_k13_0 (xs : Nat → Int32) : zz_E zp_P zt_tf zt_fd (zt_X 6 (fun q => if q = 1 then nI 0 else xs q)) 1000 zm_law 33 zv_L [.int (nI 13)] zv_h zv_Q := by
  refine zz_E.n 503 rfl rfl rfl ?_
  refine zz_E.n 504 rfl rfl rfl ?_
  refine zz_E.n 505 rfl rfl rfl ?_
  refine zz_E.n 506 rfl rfl rfl ?_
  refine zz_E.n 507 rfl rfl rfl ?_
  refine zz_E.n 508 rfl rfl rfl ?_
  refine zz_E.n 509 rfl rfl rfl ?_
  refine zz_E.n 510 rfl rfl rfl ?_
  refine zz_E.n 511 rfl rfl rfl ?_
  refine zz_E.n 512 rfl rfl rfl ?_
  refine zz_E.n 513 rfl rfl rfl ?_
  refine zz_E.n 514 rfl rfl rfl ?_
  refine zz_E.cl (M' := zm_15) 517 rfl rfl (by decide) rfl rfl ⟨rfl, Nat.le_of_ble_eq_true rfl⟩ rfl ?_
  refine zz_E.n 1 rfl rfl rfl ?_
  refine zz_E.cl (M' := zm_21) 4 rfl rfl (by decide) rfl rfl ⟨rfl, Nat.le_of_ble_eq_true rfl⟩ rfl ?_
  refine zz_E.n 1 rfl rfl rfl ?_
  refine zz_E.jf 4 rfl (by rfl) (by decide) rfl ?_
  refine zz_E.n 5 rfl rfl rfl ?_
  refine zz_E.n 7 rfl rfl rfl ?_
  refine zz_E.kf 10 rfl (by rfl) (by decide) rfl ?_
  refine zz_E.n 11 rfl rfl rfl ?_
  refine zz_E.n 15 rfl rfl rfl ?_
  refine zz_E.ret rfl rfl rfl ?_
  refine zz_E.jf 7 rfl (by rfl) (by decide) rfl ?_
  refine zz_E.n 8 rfl rfl rfl ?_
  refine zz_E.n 11 rfl rfl rfl ?_
  refine zz_E.n 12 rfl rfl rfl ?_
  refine zz_E.cl (M' := zm_23) 15 rfl rfl (by decide) rfl rfl ⟨rfl, Nat.le_of_ble_eq_true rfl⟩ rfl ?_
  refine zz_E.n 1 rfl rfl rfl ?_
  refine zz_E.n 4 rfl rfl rfl ?_
  refine zz_E.n 5 rfl rfl rfl ?_
  refine zz_E.n 6 rfl rfl rfl ?_
  refine zz_E.jf 9 rfl (by rfl) (by decide) rfl ?_
  refine zz_E.n 10 rfl rfl rfl ?_
  refine zz_E.n 21 rfl rfl rfl ?_
  refine zz_E.ret rfl rfl rfl ?_
  refine zz_E.n 16 rfl rfl rfl ?_
  refine zz_E.kf 19 rfl (by rfl) (by decide) rfl ?_
  refine zz_E.n 20 rfl rfl rfl ?_
  refine zz_E.ret rfl rfl rfl ?_
  refine zz_E.n 518 rfl rfl rfl ?_
  refine zz_E.n 519 rfl rfl rfl ?_
  refine zz_E.n 520 rfl rfl rfl ?_
  refine zz_E.n 521 rfl rfl rfl ?_
  refine zz_E.n 522 rfl rfl rfl ?_
  refine zz_E.n 523 rfl rfl rfl ?_
  refine zz_E.n 524 rfl rfl rfl ?_
  refine zz_E.n 525 rfl rfl rfl ?_
  refine zz_E.n 526 rfl rfl rfl ?_
  refine zz_E.n 527 rfl rfl rfl ?_
  refine zz_E.n 528 rfl rfl rfl ?_
  refine zz_E.cl (M' := zm_80) 531 rfl rfl (by decide) rfl rfl ⟨rfl, Nat.le_of_ble_eq_true rfl⟩ rfl ?_
  refine zz_E.n 1 rfl rfl rfl ?_
  refine zz_E.n 2 rfl rfl rfl ?_
  refine zz_E.cl (M' := zm_79) 5 rfl rfl (by decide) rfl rfl ⟨rfl, Nat.le_of_ble_eq_true rfl⟩ rfl ?_
  refine zz_E.n 1 rfl rfl rfl ?_
  refine zz_E.cl (M' := zm_73) 4 rfl rfl (by decide) rfl rfl ⟨rfl, Nat.le_of_ble_eq_true rfl⟩ rfl ?_
  refine zz_E.n 1 rfl rfl rfl ?_
  refine zz_E.jf 4 rfl (by rfl) (by decide) rfl ?_
  refine zz_E.n 5 rfl rfl rfl ?_
  refine zz_E.n 7 rfl rfl rfl ?_
  refine zz_E.kf 10 rfl (by rfl) (by decide) rfl ?_
  refine zz_E.n 11 rfl rfl rfl ?_
  refine zz_E.n 15 rfl rfl rfl ?_
  refine zz_E.ret rfl rfl rfl ?_
  refine zz_E.jf 7 rfl (by rfl) (by decide) rfl ?_
  refine zz_E.n 8 rfl rfl rfl ?_
  refine zz_E.n 11 rfl rfl rfl ?_
  refine zz_E.n 14 rfl rfl rfl ?_
  refine zz_E.n 15 rfl rfl rfl ?_
  refine zz_E.n 16 rfl rfl rfl ?_
  refine zz_E.n 17 rfl rfl rfl ?_
  refine zz_E.n 21 rfl rfl rfl ?_
  refine zz_E.ret rfl rfl rfl ?_
  refine zz_E.n 6 rfl rfl rfl ?_
  refine zz_E.n 7 rfl rfl rfl ?_
  refine zz_E.jf 10 rfl (by rfl) (by decide) rfl ?_
  refine zz_E.n 11 rfl rfl rfl ?_
  refine zz_E.ret rfl rfl rfl ?_
  refine zz_E.kt 652 rfl (by rfl) (by decide) rfl ?_
  refine zz_E.n 655 rfl rfl rfl ?_
  refine zz_E.n 18 rfl rfl rfl ?_
  refine zz_E.n 19 rfl rfl rfl ?_
  refine zz_E.n 20 rfl rfl rfl ?_
  refine zz_E.n 21 rfl rfl rfl ?_
  refine zz_E.n 23 rfl rfl rfl ?_
  refine zz_E.n 24 rfl rfl rfl ?_
  refine zz_E.kt 658 rfl (by rfl) (by decide) rfl ?_
  refine zz_E.n 659 rfl rfl rfl ?_
  refine zz_E.ret rfl rfl rfl ?_
  exact ⟨rfl, by decide +kernel, by decide +kernel⟩
set_option maxRecDepth 100000 in
set_option maxHeartbeats 8000000 in
theorem zv_k13_1 (xs : Nat → Int32) : zz_E zp_P zt_tf zt_fd (zt_X 6 (fun q => if q = 1 then nI 1 else xs q)) 1000 zm_law 33 zv_L [.int (nI 13)] zv_h zv_Q := by
  refine zz_E.n 503 rfl rfl rfl ?_
  refine zz_E.n 504 rfl rfl rfl ?_
  refine zz_E.n 505 rfl rfl rfl ?_
  refine zz_E.n 506 rfl rfl rfl ?_
  refine zz_E.n 507 rfl rfl rfl ?_
  refine zz_E.n 508 rfl rfl rfl ?_
  refine zz_E.n 509 rfl rfl rfl ?_
  refine zz_E.n 510 rfl rfl rfl ?_
  refine zz_E.n 511 rfl rfl rfl ?_
  refine zz_E.n 512 rfl rfl rfl ?_
  refine zz_E.n 513 rfl rfl rfl ?_
  refine zz_E.n 514 rfl rfl rfl ?_
  refine zz_E.cl (M' := zm_15) 517 rfl rfl (by decide) rfl rfl ⟨rfl, Nat.le_of_ble_eq_true rfl⟩ rfl ?_
  refine zz_E.n 1 rfl rfl rfl ?_
  refine zz_E.cl (M' := zm_21) 4 rfl rfl (by decide) rfl rfl ⟨rfl, Nat.le_of_ble_eq_true rfl⟩ rfl ?_
  refine zz_E.n 1 rfl rfl rfl ?_
  refine zz_E.jf 4 rfl (by rfl) (by decide) rfl ?_
  refine zz_E.n 5 rfl rfl rfl ?_
  refine zz_E.n 7 rfl rfl rfl ?_
  refine zz_E.kf 10 rfl (by rfl) (by decide) rfl ?_
  refine zz_E.n 11 rfl rfl rfl ?_
  refine zz_E.n 15 rfl rfl rfl ?_
  refine zz_E.ret rfl rfl rfl ?_
  refine zz_E.jf 7 rfl (by rfl) (by decide) rfl ?_
  refine zz_E.n 8 rfl rfl rfl ?_
  refine zz_E.n 11 rfl rfl rfl ?_
  refine zz_E.n 12 rfl rfl rfl ?_
  refine zz_E.cl (M' := zm_23) 15 rfl rfl (by decide) rfl rfl ⟨rfl, Nat.le_of_ble_eq_true rfl⟩ rfl ?_
  refine zz_E.n 1 rfl rfl rfl ?_
  refine zz_E.n 4 rfl rfl rfl ?_
  refine zz_E.n 5 rfl rfl rfl ?_
  refine zz_E.n 6 rfl rfl rfl ?_
  refine zz_E.jf 9 rfl (by rfl) (by decide) rfl ?_
  refine zz_E.n 10 rfl rfl rfl ?_
  refine zz_E.n 21 rfl rfl rfl ?_
  refine zz_E.ret rfl rfl rfl ?_
  refine zz_E.n 16 rfl rfl rfl ?_
  refine zz_E.kf 19 rfl (by rfl) (by decide) rfl ?_
  refine zz_E.n 20 rfl rfl rfl ?_
  refine zz_E.ret rfl rfl rfl ?_
  refine zz_E.n 518 rfl rfl rfl ?_
  refine zz_E.n 519 rfl rfl rfl ?_
  refine zz_E.n 520 rfl rfl rfl ?_
  refine zz_E.n 521 rfl rfl rfl ?_
  refine zz_E.n 522 rfl rfl rfl ?_
  refine zz_E.n 523 rfl rfl rfl ?_
  refine zz_E.n 524 rfl rfl rfl ?_
  refine zz_E.n 525 rfl rfl rfl ?_
  refine zz_E.n 526 rfl rfl rfl ?_
  refine zz_E.n 527 rfl rfl rfl ?_
  refine zz_E.n 528 rfl rfl rfl ?_
  refine zz_E.cl (M' := zm_80) 531 rfl rfl (by decide) rfl rfl ⟨rfl, Nat.le_of_ble_eq_true rfl⟩ rfl ?_
  refine zz_E.n 1 rfl rfl rfl ?_
  refine zz_E.n 2 rfl rfl rfl ?_
  refine zz_E.cl (M' := zm_79) 5 rfl rfl (by decide) rfl rfl ⟨rfl, Nat.le_of_ble_eq_true rfl⟩ rfl ?_
  refine zz_E.n 1 rfl rfl rfl ?_
  refine zz_E.cl (M' := zm_73) 4 rfl rfl (by decide) rfl rfl ⟨rfl, Nat.le_of_ble_eq_true rfl⟩ rfl ?_
  refine zz_E.n 1 rfl rfl rfl ?_
  refine zz_E.jf 4 rfl (by rfl) (by decide) rfl ?_
  refine zz_E.n 5 rfl rfl rfl ?_
  refine zz_E.n 7 rfl rfl rfl ?_
  refine zz_E.kf 10 rfl (by rfl) (by decide) rfl ?_
  refine zz_E.n 11 rfl rfl rfl ?_
  refine zz_E.n 15 rfl rfl rfl ?_
  refine zz_E.ret rfl rfl rfl ?_
  refine zz_E.jf 7 rfl (by rfl) (by decide) rfl ?_
  refine zz_E.n 8 rfl rfl rfl ?_
  refine zz_E.n 11 rfl rfl rfl ?_
  refine zz_E.n 14 rfl rfl rfl ?_
  refine zz_E.n 15 rfl rfl rfl ?_
  refine zz_E.n 16 rfl rfl rfl ?_
  refine zz_E.n 17 rfl rfl rfl ?_
  refine zz_E.n 21 rfl rfl rfl ?_
  refine zz_E.ret rfl rfl rfl ?_
  refine zz_E.n 6 rfl rfl rfl ?_
  refine zz_E.n 7 rfl rfl rfl ?_
  refine zz_E.jf 10 rfl (by rfl) (by decide) rfl ?_
  refine zz_E.n 11 rfl rfl rfl ?_
  refine zz_E.ret rfl rfl rfl ?_
  refine zz_E.kt 652 rfl (by rfl) (by decide) rfl ?_
  refine zz_E.n 655 rfl rfl rfl ?_
  refine zz_E.n 18 rfl rfl rfl ?_
  refine zz_E.n 19 rfl rfl rfl ?_
  refine zz_E.n 20 rfl rfl rfl ?_
  refine zz_E.n 21 rfl rfl rfl ?_
  refine zz_E.n 23 rfl rfl rfl ?_
  refine zz_E.n 24 rfl rfl rfl ?_
  refine zz_E.kt 658 rfl (by rfl) (by decide) rfl ?_
  refine zz_E.n 659 rfl rfl rfl ?_
  refine zz_E.ret rfl rfl rfl ?_
  exact ⟨rfl, by decide +kernel, by decide +kernel⟩
set_option maxRecDepth 100000 in
set_option maxHeartbeats 8000000 in
theorem zv_k13_2 (xs : Nat → Int32) : zz_E zp_P zt_tf zt_fd (zt_X 6 (fun q => if q = 1 then nI 2 else xs q)) 1000 zm_law 33 zv_L [.int (nI 13)] zv_h zv_Q := by
  refine zz_E.n 503 rfl rfl rfl ?_
  refine zz_E.n 504 rfl rfl rfl ?_
  refine zz_E.n 505 rfl rfl rfl ?_
  refine zz_E.n 506 rfl rfl rfl ?_
  refine zz_E.n 507 rfl rfl rfl ?_
  refine zz_E.n 508 rfl rfl rfl ?_
  refine zz_E.n 509 rfl rfl rfl ?_
  refine zz_E.n 510 rfl rfl rfl ?_
  refine zz_E.n 511 rfl rfl rfl ?_
  refine zz_E.n 512 rfl rfl rfl ?_
  refine zz_E.n 513 rfl rfl rfl ?_
  refine zz_E.n 514 rfl rfl rfl ?_
  refine zz_E.cl (M' := zm_15) 517 rfl rfl (by decide) rfl rfl ⟨rfl, Nat.le_of_ble_eq_true rfl⟩ rfl ?_
  refine zz_E.n 1 rfl rfl rfl ?_
  refine zz_E.cl (M' := zm_21) 4 rfl rfl (by decide) rfl rfl ⟨rfl, Nat.le_of_ble_eq_true rfl⟩ rfl ?_
  refine zz_E.n 1 rfl rfl rfl ?_
  refine zz_E.jf 4 rfl (by rfl) (by decide) rfl ?_
  refine zz_E.n 5 rfl rfl rfl ?_
  refine zz_E.n 7 rfl rfl rfl ?_
  refine zz_E.kf 10 rfl (by rfl) (by decide) rfl ?_
  refine zz_E.n 11 rfl rfl rfl ?_
  refine zz_E.n 15 rfl rfl rfl ?_
  refine zz_E.ret rfl rfl rfl ?_
  refine zz_E.jf 7 rfl (by rfl) (by decide) rfl ?_
  refine zz_E.n 8 rfl rfl rfl ?_
  refine zz_E.n 11 rfl rfl rfl ?_
  refine zz_E.n 12 rfl rfl rfl ?_
  refine zz_E.cl (M' := zm_23) 15 rfl rfl (by decide) rfl rfl ⟨rfl, Nat.le_of_ble_eq_true rfl⟩ rfl ?_
  refine zz_E.n 1 rfl rfl rfl ?_
  refine zz_E.n 4 rfl rfl rfl ?_
  refine zz_E.n 5 rfl rfl rfl ?_
  refine zz_E.n 6 rfl rfl rfl ?_
  refine zz_E.jf 9 rfl (by rfl) (by decide) rfl ?_
  refine zz_E.n 10 rfl rfl rfl ?_
  refine zz_E.n 21 rfl rfl rfl ?_
  refine zz_E.ret rfl rfl rfl ?_
  refine zz_E.n 16 rfl rfl rfl ?_
  refine zz_E.kf 19 rfl (by rfl) (by decide) rfl ?_
  refine zz_E.n 20 rfl rfl rfl ?_
  refine zz_E.ret rfl rfl rfl ?_
  refine zz_E.n 518 rfl rfl rfl ?_
  refine zz_E.n 519 rfl rfl rfl ?_
  refine zz_E.n 520 rfl rfl rfl ?_
  refine zz_E.n 521 rfl rfl rfl ?_
  refine zz_E.n 522 rfl rfl rfl ?_
  refine zz_E.n 523 rfl rfl rfl ?_
  refine zz_E.n 524 rfl rfl rfl ?_
  refine zz_E.n 525 rfl rfl rfl ?_
  refine zz_E.n 526 rfl rfl rfl ?_
  refine zz_E.n 527 rfl rfl rfl ?_
  refine zz_E.n 528 rfl rfl rfl ?_
  refine zz_E.cl (M' := zm_80) 531 rfl rfl (by decide) rfl rfl ⟨rfl, Nat.le_of_ble_eq_true rfl⟩ rfl ?_
  refine zz_E.n 1 rfl rfl rfl ?_
  refine zz_E.n 2 rfl rfl rfl ?_
  refine zz_E.cl (M' := zm_79) 5 rfl rfl (by decide) rfl rfl ⟨rfl, Nat.le_of_ble_eq_true rfl⟩ rfl ?_
  refine zz_E.n 1 rfl rfl rfl ?_
  refine zz_E.cl (M' := zm_73) 4 rfl rfl (by decide) rfl rfl ⟨rfl, Nat.le_of_ble_eq_true rfl⟩ rfl ?_
  refine zz_E.n 1 rfl rfl rfl ?_
  refine zz_E.jf 4 rfl (by rfl) (by decide) rfl ?_
  refine zz_E.n 5 rfl rfl rfl ?_
  refine zz_E.n 7 rfl rfl rfl ?_
  refine zz_E.kf 10 rfl (by rfl) (by decide) rfl ?_
  refine zz_E.n 11 rfl rfl rfl ?_
  refine zz_E.n 15 rfl rfl rfl ?_
  refine zz_E.ret rfl rfl rfl ?_
  refine zz_E.jf 7 rfl (by rfl) (by decide) rfl ?_
  refine zz_E.n 8 rfl rfl rfl ?_
  refine zz_E.n 11 rfl rfl rfl ?_
  refine zz_E.n 14 rfl rfl rfl ?_
  refine zz_E.n 15 rfl rfl rfl ?_
  refine zz_E.n 16 rfl rfl rfl ?_
  refine zz_E.n 17 rfl rfl rfl ?_
  refine zz_E.n 21 rfl rfl rfl ?_
  refine zz_E.ret rfl rfl rfl ?_
  refine zz_E.n 6 rfl rfl rfl ?_
  refine zz_E.n 7 rfl rfl rfl ?_
  refine zz_E.jf 10 rfl (by rfl) (by decide) rfl ?_
  refine zz_E.n 11 rfl rfl rfl ?_
  refine zz_E.ret rfl rfl rfl ?_
  refine zz_E.kt 652 rfl (by rfl) (by decide) rfl ?_
  refine zz_E.n 655 rfl rfl rfl ?_
  refine zz_E.n 18 rfl rfl rfl ?_
  refine zz_E.n 19 rfl rfl rfl ?_
  refine zz_E.n 20 rfl rfl rfl ?_
  refine zz_E.n 21 rfl rfl rfl ?_
  refine zz_E.n 23 rfl rfl rfl ?_
  refine zz_E.n 24 rfl rfl rfl ?_
  refine zz_E.kt 658 rfl (by rfl) (by decide) rfl ?_
  refine zz_E.n 659 rfl rfl rfl ?_
  refine zz_E.ret rfl rfl rfl ?_
  exact ⟨rfl, by decide +kernel, by decide +kernel⟩
set_option maxRecDepth 100000 in
set_option maxHeartbeats 8000000 in
theorem zv_k13_3 (xs : Nat → Int32) : zz_E zp_P zt_tf zt_fd (zt_X 6 (fun q => if q = 1 then nI 3 else xs q)) 1000 zm_law 33 zv_L [.int (nI 13)] zv_h zv_Q := by
  refine zz_E.n 503 rfl rfl rfl ?_
  refine zz_E.n 504 rfl rfl rfl ?_
  refine zz_E.n 505 rfl rfl rfl ?_
  refine zz_E.n 506 rfl rfl rfl ?_
  refine zz_E.n 507 rfl rfl rfl ?_
  refine zz_E.n 508 rfl rfl rfl ?_
  refine zz_E.n 509 rfl rfl rfl ?_
  refine zz_E.n 510 rfl rfl rfl ?_
  refine zz_E.n 511 rfl rfl rfl ?_
  refine zz_E.n 512 rfl rfl rfl ?_
  refine zz_E.n 513 rfl rfl rfl ?_
  refine zz_E.n 514 rfl rfl rfl ?_
  refine zz_E.cl (M' := zm_15) 517 rfl rfl (by decide) rfl rfl ⟨rfl, Nat.le_of_ble_eq_true rfl⟩ rfl ?_
  refine zz_E.n 1 rfl rfl rfl ?_
  refine zz_E.cl (M' := zm_21) 4 rfl rfl (by decide) rfl rfl ⟨rfl, Nat.le_of_ble_eq_true rfl⟩ rfl ?_
  refine zz_E.n 1 rfl rfl rfl ?_
  refine zz_E.jf 4 rfl (by rfl) (by decide) rfl ?_
  refine zz_E.n 5 rfl rfl rfl ?_
  refine zz_E.n 7 rfl rfl rfl ?_
  refine zz_E.kf 10 rfl (by rfl) (by decide) rfl ?_
  refine zz_E.n 11 rfl rfl rfl ?_
  refine zz_E.n 15 rfl rfl rfl ?_
  refine zz_E.ret rfl rfl rfl ?_
  refine zz_E.jf 7 rfl (by rfl) (by decide) rfl ?_
  refine zz_E.n 8 rfl rfl rfl ?_
  refine zz_E.n 11 rfl rfl rfl ?_
  refine zz_E.n 12 rfl rfl rfl ?_
  refine zz_E.cl (M' := zm_23) 15 rfl rfl (by decide) rfl rfl ⟨rfl, Nat.le_of_ble_eq_true rfl⟩ rfl ?_
  refine zz_E.n 1 rfl rfl rfl ?_
  refine zz_E.n 4 rfl rfl rfl ?_
  refine zz_E.n 5 rfl rfl rfl ?_
  refine zz_E.n 6 rfl rfl rfl ?_
  refine zz_E.jf 9 rfl (by rfl) (by decide) rfl ?_
  refine zz_E.n 10 rfl rfl rfl ?_
  refine zz_E.n 21 rfl rfl rfl ?_
  refine zz_E.ret rfl rfl rfl ?_
  refine zz_E.n 16 rfl rfl rfl ?_
  refine zz_E.kf 19 rfl (by rfl) (by decide) rfl ?_
  refine zz_E.n 20 rfl rfl rfl ?_
  refine zz_E.ret rfl rfl rfl ?_
  refine zz_E.n 518 rfl rfl rfl ?_
  refine zz_E.n 519 rfl rfl rfl ?_
  refine zz_E.n 520 rfl rfl rfl ?_
  refine zz_E.n 521 rfl rfl rfl ?_
  refine zz_E.n 522 rfl rfl rfl ?_
  refine zz_E.n 523 rfl rfl rfl ?_
  refine zz_E.n 524 rfl rfl rfl ?_
  refine zz_E.n 525 rfl rfl rfl ?_
  refine zz_E.n 526 rfl rfl rfl ?_
  refine zz_E.n 527 rfl rfl rfl ?_
  refine zz_E.n 528 rfl rfl rfl ?_
  refine zz_E.cl (M' := zm_80) 531 rfl rfl (by decide) rfl rfl ⟨rfl, Nat.le_of_ble_eq_true rfl⟩ rfl ?_
  refine zz_E.n 1 rfl rfl rfl ?_
  refine zz_E.n 2 rfl rfl rfl ?_
  refine zz_E.cl (M' := zm_79) 5 rfl rfl (by decide) rfl rfl ⟨rfl, Nat.le_of_ble_eq_true rfl⟩ rfl ?_
  refine zz_E.n 1 rfl rfl rfl ?_
  refine zz_E.cl (M' := zm_73) 4 rfl rfl (by decide) rfl rfl ⟨rfl, Nat.le_of_ble_eq_true rfl⟩ rfl ?_
  refine zz_E.n 1 rfl rfl rfl ?_
  refine zz_E.jf 4 rfl (by rfl) (by decide) rfl ?_
  refine zz_E.n 5 rfl rfl rfl ?_
  refine zz_E.n 7 rfl rfl rfl ?_
  refine zz_E.kf 10 rfl (by rfl) (by decide) rfl ?_
  refine zz_E.n 11 rfl rfl rfl ?_
  refine zz_E.n 15 rfl rfl rfl ?_
  refine zz_E.ret rfl rfl rfl ?_
  refine zz_E.jf 7 rfl (by rfl) (by decide) rfl ?_
  refine zz_E.n 8 rfl rfl rfl ?_
  refine zz_E.n 11 rfl rfl rfl ?_
  refine zz_E.n 14 rfl rfl rfl ?_
  refine zz_E.n 15 rfl rfl rfl ?_
  refine zz_E.n 16 rfl rfl rfl ?_
  refine zz_E.n 17 rfl rfl rfl ?_
  refine zz_E.n 21 rfl rfl rfl ?_
  refine zz_E.ret rfl rfl rfl ?_
  refine zz_E.n 6 rfl rfl rfl ?_
  refine zz_E.n 7 rfl rfl rfl ?_
  refine zz_E.jf 10 rfl (by rfl) (by decide) rfl ?_
  refine zz_E.n 11 rfl rfl rfl ?_
  refine zz_E.ret rfl rfl rfl ?_
  refine zz_E.kt 652 rfl (by rfl) (by decide) rfl ?_
  refine zz_E.n 655 rfl rfl rfl ?_
  refine zz_E.n 18 rfl rfl rfl ?_
  refine zz_E.n 19 rfl rfl rfl ?_
  refine zz_E.n 20 rfl rfl rfl ?_
  refine zz_E.n 21 rfl rfl rfl ?_
  refine zz_E.n 23 rfl rfl rfl ?_
  refine zz_E.n 24 rfl rfl rfl ?_
  refine zz_E.kt 658 rfl (by rfl) (by decide) rfl ?_
  refine zz_E.n 659 rfl rfl rfl ?_
  refine zz_E.ret rfl rfl rfl ?_
  exact ⟨rfl, by decide +kernel, by decide +kernel⟩
set_option maxRecDepth 100000 in
set_option maxHeartbeats 8000000 in
theorem zv_k13_4 (xs : Nat → Int32) : zz_E zp_P zt_tf zt_fd (zt_X 6 (fun q => if q = 1 then nI 4 else xs q)) 1000 zm_law 33 zv_L [.int (nI 13)] zv_h zv_Q := by
  refine zz_E.n 503 rfl rfl rfl ?_
  refine zz_E.n 504 rfl rfl rfl ?_
  refine zz_E.n 505 rfl rfl rfl ?_
  refine zz_E.n 506 rfl rfl rfl ?_
  refine zz_E.n 507 rfl rfl rfl ?_
  refine zz_E.n 508 rfl rfl rfl ?_
  refine zz_E.n 509 rfl rfl rfl ?_
  refine zz_E.n 510 rfl rfl rfl ?_
  refine zz_E.n 511 rfl rfl rfl ?_
  refine zz_E.n 512 rfl rfl rfl ?_
  refine zz_E.n 513 rfl rfl rfl ?_
  refine zz_E.n 514 rfl rfl rfl ?_
  refine zz_E.cl (M' := zm_15) 517 rfl rfl (by decide) rfl rfl ⟨rfl, Nat.le_of_ble_eq_true rfl⟩ rfl ?_
  refine zz_E.n 1 rfl rfl rfl ?_
  refine zz_E.cl (M' := zm_21) 4 rfl rfl (by decide) rfl rfl ⟨rfl, Nat.le_of_ble_eq_true rfl⟩ rfl ?_
  refine zz_E.n 1 rfl rfl rfl ?_
  refine zz_E.jf 4 rfl (by rfl) (by decide) rfl ?_
  refine zz_E.n 5 rfl rfl rfl ?_
  refine zz_E.n 7 rfl rfl rfl ?_
  refine zz_E.kf 10 rfl (by rfl) (by decide) rfl ?_
  refine zz_E.n 11 rfl rfl rfl ?_
  refine zz_E.n 15 rfl rfl rfl ?_
  refine zz_E.ret rfl rfl rfl ?_
  refine zz_E.jf 7 rfl (by rfl) (by decide) rfl ?_
  refine zz_E.n 8 rfl rfl rfl ?_
  refine zz_E.n 11 rfl rfl rfl ?_
  refine zz_E.n 12 rfl rfl rfl ?_
  refine zz_E.cl (M' := zm_23) 15 rfl rfl (by decide) rfl rfl ⟨rfl, Nat.le_of_ble_eq_true rfl⟩ rfl ?_
  refine zz_E.n 1 rfl rfl rfl ?_
  refine zz_E.n 4 rfl rfl rfl ?_
  refine zz_E.n 5 rfl rfl rfl ?_
  refine zz_E.n 6 rfl rfl rfl ?_
  refine zz_E.jf 9 rfl (by rfl) (by decide) rfl ?_
  refine zz_E.n 10 rfl rfl rfl ?_
  refine zz_E.n 21 rfl rfl rfl ?_
  refine zz_E.ret rfl rfl rfl ?_
  refine zz_E.n 16 rfl rfl rfl ?_
  refine zz_E.kf 19 rfl (by rfl) (by decide) rfl ?_
  refine zz_E.n 20 rfl rfl rfl ?_
  refine zz_E.ret rfl rfl rfl ?_
  refine zz_E.n 518 rfl rfl rfl ?_
  refine zz_E.n 519 rfl rfl rfl ?_
  refine zz_E.n 520 rfl rfl rfl ?_
  refine zz_E.n 521 rfl rfl rfl ?_
  refine zz_E.n 522 rfl rfl rfl ?_
  refine zz_E.n 523 rfl rfl rfl ?_
  refine zz_E.n 524 rfl rfl rfl ?_
  refine zz_E.n 525 rfl rfl rfl ?_
  refine zz_E.n 526 rfl rfl rfl ?_
  refine zz_E.n 527 rfl rfl rfl ?_
  refine zz_E.n 528 rfl rfl rfl ?_
  refine zz_E.cl (M' := zm_80) 531 rfl rfl (by decide) rfl rfl ⟨rfl, Nat.le_of_ble_eq_true rfl⟩ rfl ?_
  refine zz_E.n 1 rfl rfl rfl ?_
  refine zz_E.n 2 rfl rfl rfl ?_
  refine zz_E.cl (M' := zm_79) 5 rfl rfl (by decide) rfl rfl ⟨rfl, Nat.le_of_ble_eq_true rfl⟩ rfl ?_
  refine zz_E.n 1 rfl rfl rfl ?_
  refine zz_E.cl (M' := zm_73) 4 rfl rfl (by decide) rfl rfl ⟨rfl, Nat.le_of_ble_eq_true rfl⟩ rfl ?_
  refine zz_E.n 1 rfl rfl rfl ?_
  refine zz_E.jf 4 rfl (by rfl) (by decide) rfl ?_
  refine zz_E.n 5 rfl rfl rfl ?_
  refine zz_E.n 7 rfl rfl rfl ?_
  refine zz_E.kf 10 rfl (by rfl) (by decide) rfl ?_
  refine zz_E.n 11 rfl rfl rfl ?_
  refine zz_E.n 15 rfl rfl rfl ?_
  refine zz_E.ret rfl rfl rfl ?_
  refine zz_E.jf 7 rfl (by rfl) (by decide) rfl ?_
  refine zz_E.n 8 rfl rfl rfl ?_
  refine zz_E.n 11 rfl rfl rfl ?_
  refine zz_E.n 14 rfl rfl rfl ?_
  refine zz_E.n 15 rfl rfl rfl ?_
  refine zz_E.n 16 rfl rfl rfl ?_
  refine zz_E.n 17 rfl rfl rfl ?_
  refine zz_E.n 21 rfl rfl rfl ?_
  refine zz_E.ret rfl rfl rfl ?_
  refine zz_E.n 6 rfl rfl rfl ?_
  refine zz_E.n 7 rfl rfl rfl ?_
  refine zz_E.jf 10 rfl (by rfl) (by decide) rfl ?_
  refine zz_E.n 11 rfl rfl rfl ?_
  refine zz_E.ret rfl rfl rfl ?_
  refine zz_E.kt 652 rfl (by rfl) (by decide) rfl ?_
  refine zz_E.n 655 rfl rfl rfl ?_
  refine zz_E.n 18 rfl rfl rfl ?_
  refine zz_E.n 19 rfl rfl rfl ?_
  refine zz_E.n 20 rfl rfl rfl ?_
  refine zz_E.n 21 rfl rfl rfl ?_
  refine zz_E.n 23 rfl rfl rfl ?_
  refine zz_E.n 24 rfl rfl rfl ?_
  refine zz_E.kt 658 rfl (by rfl) (by decide) rfl ?_
  refine zz_E.n 659 rfl rfl rfl ?_
  refine zz_E.ret rfl rfl rfl ?_
  exact ⟨rfl, by decide +kernel, by decide +kernel⟩
set_option maxRecDepth 100000 in
set_option maxHeartbeats 8000000 in
theorem zv_k13_5 (xs : Nat → Int32) : zz_E zp_P zt_tf zt_fd (zt_X 6 (fun q => if q = 1 then nI 5 else xs q)) 1000 zm_law 33 zv_L [.int (nI 13)] zv_h zv_Q := by
  refine zz_E.n 503 rfl rfl rfl ?_
  refine zz_E.n 504 rfl rfl rfl ?_
  refine zz_E.n 505 rfl rfl rfl ?_
  refine zz_E.n 506 rfl rfl rfl ?_
  refine zz_E.n 507 rfl rfl rfl ?_
  refine zz_E.n 508 rfl rfl rfl ?_
  refine zz_E.n 509 rfl rfl rfl ?_
  refine zz_E.n 510 rfl rfl rfl ?_
  refine zz_E.n 511 rfl rfl rfl ?_
  refine zz_E.n 512 rfl rfl rfl ?_
  refine zz_E.n 513 rfl rfl rfl ?_
  refine zz_E.n 514 rfl rfl rfl ?_
  refine zz_E.cl (M' := zm_15) 517 rfl rfl (by decide) rfl rfl ⟨rfl, Nat.le_of_ble_eq_true rfl⟩ rfl ?_
  refine zz_E.n 1 rfl rfl rfl ?_
  refine zz_E.cl (M' := zm_21) 4 rfl rfl (by decide) rfl rfl ⟨rfl, Nat.le_of_ble_eq_true rfl⟩ rfl ?_
  refine zz_E.n 1 rfl rfl rfl ?_
  refine zz_E.jf 4 rfl (by rfl) (by decide) rfl ?_
  refine zz_E.n 5 rfl rfl rfl ?_
  refine zz_E.n 7 rfl rfl rfl ?_
  refine zz_E.kf 10 rfl (by rfl) (by decide) rfl ?_
  refine zz_E.n 11 rfl rfl rfl ?_
  refine zz_E.n 15 rfl rfl rfl ?_
  refine zz_E.ret rfl rfl rfl ?_
  refine zz_E.jf 7 rfl (by rfl) (by decide) rfl ?_
  refine zz_E.n 8 rfl rfl rfl ?_
  refine zz_E.n 11 rfl rfl rfl ?_
  refine zz_E.n 12 rfl rfl rfl ?_
  refine zz_E.cl (M' := zm_23) 15 rfl rfl (by decide) rfl rfl ⟨rfl, Nat.le_of_ble_eq_true rfl⟩ rfl ?_
  refine zz_E.n 1 rfl rfl rfl ?_
  refine zz_E.n 4 rfl rfl rfl ?_
  refine zz_E.n 5 rfl rfl rfl ?_
  refine zz_E.n 6 rfl rfl rfl ?_
  refine zz_E.jf 9 rfl (by rfl) (by decide) rfl ?_
  refine zz_E.n 10 rfl rfl rfl ?_
  refine zz_E.n 21 rfl rfl rfl ?_
  refine zz_E.ret rfl rfl rfl ?_
  refine zz_E.n 16 rfl rfl rfl ?_
  refine zz_E.kf 19 rfl (by rfl) (by decide) rfl ?_
  refine zz_E.n 20 rfl rfl rfl ?_
  refine zz_E.ret rfl rfl rfl ?_
  refine zz_E.n 518 rfl rfl rfl ?_
  refine zz_E.n 519 rfl rfl rfl ?_
  refine zz_E.n 520 rfl rfl rfl ?_
  refine zz_E.n 521 rfl rfl rfl ?_
  refine zz_E.n 522 rfl rfl rfl ?_
  refine zz_E.n 523 rfl rfl rfl ?_
  refine zz_E.n 524 rfl rfl rfl ?_
  refine zz_E.n 525 rfl rfl rfl ?_
  refine zz_E.n 526 rfl rfl rfl ?_
  refine zz_E.n 527 rfl rfl rfl ?_
  refine zz_E.n 528 rfl rfl rfl ?_
  refine zz_E.cl (M' := zm_80) 531 rfl rfl (by decide) rfl rfl ⟨rfl, Nat.le_of_ble_eq_true rfl⟩ rfl ?_
  refine zz_E.n 1 rfl rfl rfl ?_
  refine zz_E.n 2 rfl rfl rfl ?_
  refine zz_E.cl (M' := zm_79) 5 rfl rfl (by decide) rfl rfl ⟨rfl, Nat.le_of_ble_eq_true rfl⟩ rfl ?_
  refine zz_E.n 1 rfl rfl rfl ?_
  refine zz_E.cl (M' := zm_73) 4 rfl rfl (by decide) rfl rfl ⟨rfl, Nat.le_of_ble_eq_true rfl⟩ rfl ?_
  refine zz_E.n 1 rfl rfl rfl ?_
  refine zz_E.jf 4 rfl (by rfl) (by decide) rfl ?_
  refine zz_E.n 5 rfl rfl rfl ?_
  refine zz_E.n 7 rfl rfl rfl ?_
  refine zz_E.kf 10 rfl (by rfl) (by decide) rfl ?_
  refine zz_E.n 11 rfl rfl rfl ?_
  refine zz_E.n 15 rfl rfl rfl ?_
  refine zz_E.ret rfl rfl rfl ?_
  refine zz_E.jf 7 rfl (by rfl) (by decide) rfl ?_
  refine zz_E.n 8 rfl rfl rfl ?_
  refine zz_E.n 11 rfl rfl rfl ?_
  refine zz_E.n 14 rfl rfl rfl ?_
  refine zz_E.n 15 rfl rfl rfl ?_
  refine zz_E.n 16 rfl rfl rfl ?_
  refine zz_E.n 17 rfl rfl rfl ?_
  refine zz_E.n 21 rfl rfl rfl ?_
  refine zz_E.ret rfl rfl rfl ?_
  refine zz_E.n 6 rfl rfl rfl ?_
  refine zz_E.n 7 rfl rfl rfl ?_
  refine zz_E.jf 10 rfl (by rfl) (by decide) rfl ?_
  refine zz_E.n 11 rfl rfl rfl ?_
  refine zz_E.ret rfl rfl rfl ?_
  refine zz_E.kt 652 rfl (by rfl) (by decide) rfl ?_
  refine zz_E.n 655 rfl rfl rfl ?_
  refine zz_E.n 18 rfl rfl rfl ?_
  refine zz_E.n 19 rfl rfl rfl ?_
  refine zz_E.n 20 rfl rfl rfl ?_
  refine zz_E.n 21 rfl rfl rfl ?_
  refine zz_E.n 23 rfl rfl rfl ?_
  refine zz_E.n 24 rfl rfl rfl ?_
  refine zz_E.kt 658 rfl (by rfl) (by decide) rfl ?_
  refine zz_E.n 659 rfl rfl rfl ?_
  refine zz_E.ret rfl rfl rfl ?_
  exact ⟨rfl, by decide +kernel, by decide +kernel⟩
set_option maxRecDepth 100000 in
set_option maxHeartbeats 8000000 in
theorem zv_k13_6 (xs : Nat → Int32) : zz_E zp_P zt_tf zt_fd (zt_X 6 (fun q => if q = 1 then nI 6 else xs q)) 1000 zm_law 33 zv_L [.int (nI 13)] zv_h zv_Q := by
  refine zz_E.n 503 rfl rfl rfl ?_
  refine zz_E.n 504 rfl rfl rfl ?_
  refine zz_E.n 505 rfl rfl rfl ?_
  refine zz_E.n 506 rfl rfl rfl ?_
  refine zz_E.n 507 rfl rfl rfl ?_
  refine zz_E.n 508 rfl rfl rfl ?_
  refine zz_E.n 509 rfl rfl rfl ?_
  refine zz_E.n 510 rfl rfl rfl ?_
  refine zz_E.n 511 rfl rfl rfl ?_
  refine zz_E.n 512 rfl rfl rfl ?_
  refine zz_E.n 513 rfl rfl rfl ?_
  refine zz_E.n 514 rfl rfl rfl ?_
  refine zz_E.cl (M' := zm_15) 517 rfl rfl (by decide) rfl rfl ⟨rfl, Nat.le_of_ble_eq_true rfl⟩ rfl ?_
  refine zz_E.n 1 rfl rfl rfl ?_
  refine zz_E.cl (M' := zm_21) 4 rfl rfl (by decide) rfl rfl ⟨rfl, Nat.le_of_ble_eq_true rfl⟩ rfl ?_
  refine zz_E.n 1 rfl rfl rfl ?_
  refine zz_E.jf 4 rfl (by rfl) (by decide) rfl ?_
  refine zz_E.n 5 rfl rfl rfl ?_
  refine zz_E.n 7 rfl rfl rfl ?_
  refine zz_E.kf 10 rfl (by rfl) (by decide) rfl ?_
  refine zz_E.n 11 rfl rfl rfl ?_
  refine zz_E.n 15 rfl rfl rfl ?_
  refine zz_E.ret rfl rfl rfl ?_
  refine zz_E.jf 7 rfl (by rfl) (by decide) rfl ?_
  refine zz_E.n 8 rfl rfl rfl ?_
  refine zz_E.n 11 rfl rfl rfl ?_
  refine zz_E.n 12 rfl rfl rfl ?_
  refine zz_E.cl (M' := zm_23) 15 rfl rfl (by decide) rfl rfl ⟨rfl, Nat.le_of_ble_eq_true rfl⟩ rfl ?_
  refine zz_E.n 1 rfl rfl rfl ?_
  refine zz_E.n 4 rfl rfl rfl ?_
  refine zz_E.n 5 rfl rfl rfl ?_
  refine zz_E.n 6 rfl rfl rfl ?_
  refine zz_E.jf 9 rfl (by rfl) (by decide) rfl ?_
  refine zz_E.n 10 rfl rfl rfl ?_
  refine zz_E.n 21 rfl rfl rfl ?_
  refine zz_E.ret rfl rfl rfl ?_
  refine zz_E.n 16 rfl rfl rfl ?_
  refine zz_E.kf 19 rfl (by rfl) (by decide) rfl ?_
  refine zz_E.n 20 rfl rfl rfl ?_
  refine zz_E.ret rfl rfl rfl ?_
  refine zz_E.n 518 rfl rfl rfl ?_
  refine zz_E.n 519 rfl rfl rfl ?_
  refine zz_E.n 520 rfl rfl rfl ?_
  refine zz_E.n 521 rfl rfl rfl ?_
  refine zz_E.n 522 rfl rfl rfl ?_
  refine zz_E.n 523 rfl rfl rfl ?_
  refine zz_E.n 524 rfl rfl rfl ?_
  refine zz_E.n 525 rfl rfl rfl ?_
  refine zz_E.n 526 rfl rfl rfl ?_
  refine zz_E.n 527 rfl rfl rfl ?_
  refine zz_E.n 528 rfl rfl rfl ?_
  refine zz_E.cl (M' := zm_80) 531 rfl rfl (by decide) rfl rfl ⟨rfl, Nat.le_of_ble_eq_true rfl⟩ rfl ?_
  refine zz_E.n 1 rfl rfl rfl ?_
  refine zz_E.n 2 rfl rfl rfl ?_
  refine zz_E.cl (M' := zm_79) 5 rfl rfl (by decide) rfl rfl ⟨rfl, Nat.le_of_ble_eq_true rfl⟩ rfl ?_
  refine zz_E.n 1 rfl rfl rfl ?_
  refine zz_E.cl (M' := zm_73) 4 rfl rfl (by decide) rfl rfl ⟨rfl, Nat.le_of_ble_eq_true rfl⟩ rfl ?_
  refine zz_E.n 1 rfl rfl rfl ?_
  refine zz_E.jf 4 rfl (by rfl) (by decide) rfl ?_
  refine zz_E.n 5 rfl rfl rfl ?_
  refine zz_E.n 7 rfl rfl rfl ?_
  refine zz_E.kf 10 rfl (by rfl) (by decide) rfl ?_
  refine zz_E.n 11 rfl rfl rfl ?_
  refine zz_E.n 15 rfl rfl rfl ?_
  refine zz_E.ret rfl rfl rfl ?_
  refine zz_E.jf 7 rfl (by rfl) (by decide) rfl ?_
  refine zz_E.n 8 rfl rfl rfl ?_
  refine zz_E.n 11 rfl rfl rfl ?_
  refine zz_E.n 14 rfl rfl rfl ?_
  refine zz_E.n 15 rfl rfl rfl ?_
  refine zz_E.n 16 rfl rfl rfl ?_
  refine zz_E.n 17 rfl rfl rfl ?_
  refine zz_E.n 21 rfl rfl rfl ?_
  refine zz_E.ret rfl rfl rfl ?_
  refine zz_E.n 6 rfl rfl rfl ?_
  refine zz_E.n 7 rfl rfl rfl ?_
  refine zz_E.jf 10 rfl (by rfl) (by decide) rfl ?_
  refine zz_E.n 11 rfl rfl rfl ?_
  refine zz_E.ret rfl rfl rfl ?_
  refine zz_E.kt 652 rfl (by rfl) (by decide) rfl ?_
  refine zz_E.n 655 rfl rfl rfl ?_
  refine zz_E.n 18 rfl rfl rfl ?_
  refine zz_E.n 19 rfl rfl rfl ?_
  refine zz_E.n 20 rfl rfl rfl ?_
  refine zz_E.n 21 rfl rfl rfl ?_
  refine zz_E.n 23 rfl rfl rfl ?_
  refine zz_E.n 24 rfl rfl rfl ?_
  refine zz_E.kt 658 rfl (by rfl) (by decide) rfl ?_
  refine zz_E.n 659 rfl rfl rfl ?_
  refine zz_E.ret rfl rfl rfl ?_
  exact ⟨rfl, by decide +kernel, by decide +kernel⟩
set_option maxRecDepth 100000 in
set_option maxHeartbeats 8000000 in
theorem zv_k13_7 (xs : Nat → Int32) : zz_E zp_P zt_tf zt_fd (zt_X 6 (fun q => if q = 1 then nI 7 else xs q)) 1000 zm_law 33 zv_L [.int (nI 13)] zv_h zv_Q := by
  refine zz_E.n 503 rfl rfl rfl ?_
  refine zz_E.n 504 rfl rfl rfl ?_
  refine zz_E.n 505 rfl rfl rfl ?_
  refine zz_E.n 506 rfl rfl rfl ?_
  refine zz_E.n 507 rfl rfl rfl ?_
  refine zz_E.n 508 rfl rfl rfl ?_
  refine zz_E.n 509 rfl rfl rfl ?_
  refine zz_E.n 510 rfl rfl rfl ?_
  refine zz_E.n 511 rfl rfl rfl ?_
  refine zz_E.n 512 rfl rfl rfl ?_
  refine zz_E.n 513 rfl rfl rfl ?_
  refine zz_E.n 514 rfl rfl rfl ?_
  refine zz_E.cl (M' := zm_15) 517 rfl rfl (by decide) rfl rfl ⟨rfl, Nat.le_of_ble_eq_true rfl⟩ rfl ?_
  refine zz_E.n 1 rfl rfl rfl ?_
  refine zz_E.cl (M' := zm_21) 4 rfl rfl (by decide) rfl rfl ⟨rfl, Nat.le_of_ble_eq_true rfl⟩ rfl ?_
  refine zz_E.n 1 rfl rfl rfl ?_
  refine zz_E.jf 4 rfl (by rfl) (by decide) rfl ?_
  refine zz_E.n 5 rfl rfl rfl ?_
  refine zz_E.n 7 rfl rfl rfl ?_
  refine zz_E.kf 10 rfl (by rfl) (by decide) rfl ?_
  refine zz_E.n 11 rfl rfl rfl ?_
  refine zz_E.n 15 rfl rfl rfl ?_
  refine zz_E.ret rfl rfl rfl ?_
  refine zz_E.jf 7 rfl (by rfl) (by decide) rfl ?_
  refine zz_E.n 8 rfl rfl rfl ?_
  refine zz_E.n 11 rfl rfl rfl ?_
  refine zz_E.n 12 rfl rfl rfl ?_
  refine zz_E.cl (M' := zm_23) 15 rfl rfl (by decide) rfl rfl ⟨rfl, Nat.le_of_ble_eq_true rfl⟩ rfl ?_
  refine zz_E.n 1 rfl rfl rfl ?_
  refine zz_E.n 4 rfl rfl rfl ?_
  refine zz_E.n 5 rfl rfl rfl ?_
  refine zz_E.n 6 rfl rfl rfl ?_
  refine zz_E.jf 9 rfl (by rfl) (by decide) rfl ?_
  refine zz_E.n 10 rfl rfl rfl ?_
  refine zz_E.n 21 rfl rfl rfl ?_
  refine zz_E.ret rfl rfl rfl ?_
  refine zz_E.n 16 rfl rfl rfl ?_
  refine zz_E.kf 19 rfl (by rfl) (by decide) rfl ?_
  refine zz_E.n 20 rfl rfl rfl ?_
  refine zz_E.ret rfl rfl rfl ?_
  refine zz_E.n 518 rfl rfl rfl ?_
  refine zz_E.n 519 rfl rfl rfl ?_
  refine zz_E.n 520 rfl rfl rfl ?_
  refine zz_E.n 521 rfl rfl rfl ?_
  refine zz_E.n 522 rfl rfl rfl ?_
  refine zz_E.n 523 rfl rfl rfl ?_
  refine zz_E.n 524 rfl rfl rfl ?_
  refine zz_E.n 525 rfl rfl rfl ?_
  refine zz_E.n 526 rfl rfl rfl ?_
  refine zz_E.n 527 rfl rfl rfl ?_
  refine zz_E.n 528 rfl rfl rfl ?_
  refine zz_E.cl (M' := zm_80) 531 rfl rfl (by decide) rfl rfl ⟨rfl, Nat.le_of_ble_eq_true rfl⟩ rfl ?_
  refine zz_E.n 1 rfl rfl rfl ?_
  refine zz_E.n 2 rfl rfl rfl ?_
  refine zz_E.cl (M' := zm_79) 5 rfl rfl (by decide) rfl rfl ⟨rfl, Nat.le_of_ble_eq_true rfl⟩ rfl ?_
  refine zz_E.n 1 rfl rfl rfl ?_
  refine zz_E.cl (M' := zm_73) 4 rfl rfl (by decide) rfl rfl ⟨rfl, Nat.le_of_ble_eq_true rfl⟩ rfl ?_
  refine zz_E.n 1 rfl rfl rfl ?_
  refine zz_E.jf 4 rfl (by rfl) (by decide) rfl ?_
  refine zz_E.n 5 rfl rfl rfl ?_
  refine zz_E.n 7 rfl rfl rfl ?_
  refine zz_E.kf 10 rfl (by rfl) (by decide) rfl ?_
  refine zz_E.n 11 rfl rfl rfl ?_
  refine zz_E.n 15 rfl rfl rfl ?_
  refine zz_E.ret rfl rfl rfl ?_
  refine zz_E.jf 7 rfl (by rfl) (by decide) rfl ?_
  refine zz_E.n 8 rfl rfl rfl ?_
  refine zz_E.n 11 rfl rfl rfl ?_
  refine zz_E.n 14 rfl rfl rfl ?_
  refine zz_E.n 15 rfl rfl rfl ?_
  refine zz_E.n 16 rfl rfl rfl ?_
  refine zz_E.n 17 rfl rfl rfl ?_
  refine zz_E.n 21 rfl rfl rfl ?_
  refine zz_E.ret rfl rfl rfl ?_
  refine zz_E.n 6 rfl rfl rfl ?_
  refine zz_E.n 7 rfl rfl rfl ?_
  refine zz_E.jf 10 rfl (by rfl) (by decide) rfl ?_
  refine zz_E.n 11 rfl rfl rfl ?_
  refine zz_E.ret rfl rfl rfl ?_
  refine zz_E.kt 652 rfl (by rfl) (by decide) rfl ?_
  refine zz_E.n 655 rfl rfl rfl ?_
  refine zz_E.n 18 rfl rfl rfl ?_
  refine zz_E.n 19 rfl rfl rfl ?_
  refine zz_E.n 20 rfl rfl rfl ?_
  refine zz_E.n 21 rfl rfl rfl ?_
  refine zz_E.n 23 rfl rfl rfl ?_
  refine zz_E.n 24 rfl rfl rfl ?_
  refine zz_E.kt 658 rfl (by rfl) (by decide) rfl ?_
  refine zz_E.n 659 rfl rfl rfl ?_
  refine zz_E.ret rfl rfl rfl ?_
  exact ⟨rfl, by decide +kernel, by decide +kernel⟩
set_option maxRecDepth 100000 in
set_option maxHeartbeats 8000000 in
theorem zv_k14_0 (xs : Nat → Int32) : zz_E zp_P zt_tf zt_fd (zt_X 6 (fun q => if q = 1 then nI 0 else xs q)) 1000 zm_law 33 zv_L [.int (nI 14)] zv_h zv_Q := by
  refine zz_E.n 536 rfl rfl rfl ?_
  refine zz_E.n 537 rfl rfl rfl ?_
  refine zz_E.n 538 rfl rfl rfl ?_
  refine zz_E.n 539 rfl rfl rfl ?_
  refine zz_E.n 540 rfl rfl rfl ?_
  refine zz_E.n 541 rfl rfl rfl ?_
  refine zz_E.n 542 rfl rfl rfl ?_
  refine zz_E.n 543 rfl rfl rfl ?_
  refine zz_E.n 544 rfl rfl rfl ?_
  refine zz_E.n 545 rfl rfl rfl ?_
  refine zz_E.n 546 rfl rfl rfl ?_
  refine zz_E.n 547 rfl rfl rfl ?_
  refine zz_E.n 548 rfl rfl rfl ?_
  refine zz_E.n 549 rfl rfl rfl ?_
  refine zz_E.n 550 rfl rfl rfl ?_
  refine zz_E.n 551 rfl rfl rfl ?_
  refine zz_E.n 552 rfl rfl rfl ?_
  refine zz_E.cl (M' := zm_16) 555 rfl rfl (by decide) rfl rfl ⟨rfl, Nat.le_of_ble_eq_true rfl⟩ rfl ?_
  refine zz_E.n 1 rfl rfl rfl ?_
  refine zz_E.cl (M' := zm_21) 4 rfl rfl (by decide) rfl rfl ⟨rfl, Nat.le_of_ble_eq_true rfl⟩ rfl ?_
  refine zz_E.n 1 rfl rfl rfl ?_
  refine zz_E.jf 4 rfl (by rfl) (by decide) rfl ?_
  refine zz_E.n 5 rfl rfl rfl ?_
  refine zz_E.n 7 rfl rfl rfl ?_
  refine zz_E.kf 10 rfl (by rfl) (by decide) rfl ?_
  refine zz_E.n 11 rfl rfl rfl ?_
  refine zz_E.n 15 rfl rfl rfl ?_
  refine zz_E.ret rfl rfl rfl ?_
  refine zz_E.jf 7 rfl (by rfl) (by decide) rfl ?_
  refine zz_E.n 8 rfl rfl rfl ?_
  refine zz_E.n 11 rfl rfl rfl ?_
  refine zz_E.n 12 rfl rfl rfl ?_
  refine zz_E.cl (M' := zm_23) 15 rfl rfl (by decide) rfl rfl ⟨rfl, Nat.le_of_ble_eq_true rfl⟩ rfl ?_
  refine zz_E.n 1 rfl rfl rfl ?_
  refine zz_E.n 4 rfl rfl rfl ?_
  refine zz_E.n 5 rfl rfl rfl ?_
  refine zz_E.n 6 rfl rfl rfl ?_
  refine zz_E.jf 9 rfl (by rfl) (by decide) rfl ?_
  refine zz_E.n 10 rfl rfl rfl ?_
  refine zz_E.n 21 rfl rfl rfl ?_
  refine zz_E.ret rfl rfl rfl ?_
  refine zz_E.n 16 rfl rfl rfl ?_
  refine zz_E.kf 19 rfl (by rfl) (by decide) rfl ?_
  refine zz_E.n 20 rfl rfl rfl ?_
  refine zz_E.ret rfl rfl rfl ?_
  refine zz_E.n 556 rfl rfl rfl ?_
  refine zz_E.n 557 rfl rfl rfl ?_
  refine zz_E.n 558 rfl rfl rfl ?_
  refine zz_E.n 559 rfl rfl rfl ?_
  refine zz_E.n 560 rfl rfl rfl ?_
  refine zz_E.n 561 rfl rfl rfl ?_
  refine zz_E.n 562 rfl rfl rfl ?_
  refine zz_E.n 563 rfl rfl rfl ?_
  refine zz_E.n 564 rfl rfl rfl ?_
  refine zz_E.n 565 rfl rfl rfl ?_
  refine zz_E.n 566 rfl rfl rfl ?_
  refine zz_E.n 567 rfl rfl rfl ?_
  refine zz_E.n 568 rfl rfl rfl ?_
  refine zz_E.n 569 rfl rfl rfl ?_
  refine zz_E.n 570 rfl rfl rfl ?_
  refine zz_E.n 571 rfl rfl rfl ?_
  refine zz_E.cl (M' := zm_81) 574 rfl rfl (by decide) rfl rfl ⟨rfl, Nat.le_of_ble_eq_true rfl⟩ rfl ?_
  refine zz_E.n 1 rfl rfl rfl ?_
  refine zz_E.n 2 rfl rfl rfl ?_
  refine zz_E.cl (M' := zm_79) 5 rfl rfl (by decide) rfl rfl ⟨rfl, Nat.le_of_ble_eq_true rfl⟩ rfl ?_
  refine zz_E.n 1 rfl rfl rfl ?_
  refine zz_E.cl (M' := zm_73) 4 rfl rfl (by decide) rfl rfl ⟨rfl, Nat.le_of_ble_eq_true rfl⟩ rfl ?_
  refine zz_E.n 1 rfl rfl rfl ?_
  refine zz_E.jf 4 rfl (by rfl) (by decide) rfl ?_
  refine zz_E.n 5 rfl rfl rfl ?_
  refine zz_E.n 7 rfl rfl rfl ?_
  refine zz_E.kf 10 rfl (by rfl) (by decide) rfl ?_
  refine zz_E.n 11 rfl rfl rfl ?_
  refine zz_E.n 15 rfl rfl rfl ?_
  refine zz_E.ret rfl rfl rfl ?_
  refine zz_E.jf 7 rfl (by rfl) (by decide) rfl ?_
  refine zz_E.n 8 rfl rfl rfl ?_
  refine zz_E.n 11 rfl rfl rfl ?_
  refine zz_E.n 14 rfl rfl rfl ?_
  refine zz_E.n 15 rfl rfl rfl ?_
  refine zz_E.n 16 rfl rfl rfl ?_
  refine zz_E.n 17 rfl rfl rfl ?_
  refine zz_E.n 21 rfl rfl rfl ?_
  refine zz_E.ret rfl rfl rfl ?_
  refine zz_E.n 7 rfl rfl rfl ?_
  refine zz_E.n 9 rfl rfl rfl ?_
  refine zz_E.jf 12 rfl (by rfl) (by decide) rfl ?_
  refine zz_E.n 13 rfl rfl rfl ?_
  refine zz_E.ret rfl rfl rfl ?_
  refine zz_E.kt 652 rfl (by rfl) (by decide) rfl ?_
  refine zz_E.n 655 rfl rfl rfl ?_
  refine zz_E.n 18 rfl rfl rfl ?_
  refine zz_E.n 19 rfl rfl rfl ?_
  refine zz_E.n 20 rfl rfl rfl ?_
  refine zz_E.n 21 rfl rfl rfl ?_
  refine zz_E.n 23 rfl rfl rfl ?_
  refine zz_E.n 24 rfl rfl rfl ?_
  refine zz_E.kt 658 rfl (by rfl) (by decide) rfl ?_
  refine zz_E.n 659 rfl rfl rfl ?_
  refine zz_E.ret rfl rfl rfl ?_
  exact ⟨rfl, by decide +kernel, by decide +kernel⟩
set_option maxRecDepth 100000 in
set_option maxHeartbeats 8000000 in
theorem zv_k14_1 (xs : Nat → Int32) : zz_E zp_P zt_tf zt_fd (zt_X 6 (fun q => if q = 1 then nI 1 else xs q)) 1000 zm_law 33 zv_L [.int (nI 14)] zv_h zv_Q := by
  refine zz_E.n 536 rfl rfl rfl ?_
  refine zz_E.n 537 rfl rfl rfl ?_
  refine zz_E.n 538 rfl rfl rfl ?_
  refine zz_E.n 539 rfl rfl rfl ?_
  refine zz_E.n 540 rfl rfl rfl ?_
  refine zz_E.n 541 rfl rfl rfl ?_
  refine zz_E.n 542 rfl rfl rfl ?_
  refine zz_E.n 543 rfl rfl rfl ?_
  refine zz_E.n 544 rfl rfl rfl ?_
  refine zz_E.n 545 rfl rfl rfl ?_
  refine zz_E.n 546 rfl rfl rfl ?_
  refine zz_E.n 547 rfl rfl rfl ?_
  refine zz_E.n 548 rfl rfl rfl ?_
  refine zz_E.n 549 rfl rfl rfl ?_
  refine zz_E.n 550 rfl rfl rfl ?_
  refine zz_E.n 551 rfl rfl rfl ?_
  refine zz_E.n 552 rfl rfl rfl ?_
  refine zz_E.cl (M' := zm_16) 555 rfl rfl (by decide) rfl rfl ⟨rfl, Nat.le_of_ble_eq_true rfl⟩ rfl ?_
  refine zz_E.n 1 rfl rfl rfl ?_
  refine zz_E.cl (M' := zm_21) 4 rfl rfl (by decide) rfl rfl ⟨rfl, Nat.le_of_ble_eq_true rfl⟩ rfl ?_
  refine zz_E.n 1 rfl rfl rfl ?_
  refine zz_E.jf 4 rfl (by rfl) (by decide) rfl ?_
  refine zz_E.n 5 rfl rfl rfl ?_
  refine zz_E.n 7 rfl rfl rfl ?_
  refine zz_E.kf 10 rfl (by rfl) (by decide) rfl ?_
  refine zz_E.n 11 rfl rfl rfl ?_
  refine zz_E.n 15 rfl rfl rfl ?_
  refine zz_E.ret rfl rfl rfl ?_
  refine zz_E.jf 7 rfl (by rfl) (by decide) rfl ?_
  refine zz_E.n 8 rfl rfl rfl ?_
  refine zz_E.n 11 rfl rfl rfl ?_
  refine zz_E.n 12 rfl rfl rfl ?_
  refine zz_E.cl (M' := zm_23) 15 rfl rfl (by decide) rfl rfl ⟨rfl, Nat.le_of_ble_eq_true rfl⟩ rfl ?_
  refine zz_E.n 1 rfl rfl rfl ?_
  refine zz_E.n 4 rfl rfl rfl ?_
  refine zz_E.n 5 rfl rfl rfl ?_
  refine zz_E.n 6 rfl rfl rfl ?_
  refine zz_E.jf 9 rfl (by rfl) (by decide) rfl ?_
  refine zz_E.n 10 rfl rfl rfl ?_
  refine zz_E.n 21 rfl rfl rfl ?_
  refine zz_E.ret rfl rfl rfl ?_
  refine zz_E.n 16 rfl rfl rfl ?_
  refine zz_E.kf 19 rfl (by rfl) (by decide) rfl ?_
  refine zz_E.n 20 rfl rfl rfl ?_
  refine zz_E.ret rfl rfl rfl ?_
  refine zz_E.n 556 rfl rfl rfl ?_
  refine zz_E.n 557 rfl rfl rfl ?_
  refine zz_E.n 558 rfl rfl rfl ?_
  refine zz_E.n 559 rfl rfl rfl ?_
  refine zz_E.n 560 rfl rfl rfl ?_
  refine zz_E.n 561 rfl rfl rfl ?_
  refine zz_E.n 562 rfl rfl rfl ?_
  refine zz_E.n 563 rfl rfl rfl ?_
  refine zz_E.n 564 rfl rfl rfl ?_
  refine zz_E.n 565 rfl rfl rfl ?_
  refine zz_E.n 566 rfl rfl rfl ?_
  refine zz_E.n 567 rfl rfl rfl ?_
  refine zz_E.n 568 rfl rfl rfl ?_
  refine zz_E.n 569 rfl rfl rfl ?_
  refine zz_E.n 570 rfl rfl rfl ?_
  refine zz_E.n 571 rfl rfl rfl ?_
  refine zz_E.cl (M' := zm_81) 574 rfl rfl (by decide) rfl rfl ⟨rfl, Nat.le_of_ble_eq_true rfl⟩ rfl ?_
  refine zz_E.n 1 rfl rfl rfl ?_
  refine zz_E.n 2 rfl rfl rfl ?_
  refine zz_E.cl (M' := zm_79) 5 rfl rfl (by decide) rfl rfl ⟨rfl, Nat.le_of_ble_eq_true rfl⟩ rfl ?_
  refine zz_E.n 1 rfl rfl rfl ?_
  refine zz_E.cl (M' := zm_73) 4 rfl rfl (by decide) rfl rfl ⟨rfl, Nat.le_of_ble_eq_true rfl⟩ rfl ?_
  refine zz_E.n 1 rfl rfl rfl ?_
  refine zz_E.jf 4 rfl (by rfl) (by decide) rfl ?_
  refine zz_E.n 5 rfl rfl rfl ?_
  refine zz_E.n 7 rfl rfl rfl ?_
  refine zz_E.kf 10 rfl (by rfl) (by decide) rfl ?_
  refine zz_E.n 11 rfl rfl rfl ?_
  refine zz_E.n 15 rfl rfl rfl ?_
  refine zz_E.ret rfl rfl rfl ?_
  refine zz_E.jf 7 rfl (by rfl) (by decide) rfl ?_
  refine zz_E.n 8 rfl rfl rfl ?_
  refine zz_E.n 11 rfl rfl rfl ?_
  refine zz_E.n 14 rfl rfl rfl ?_
  refine zz_E.n 15 rfl rfl rfl ?_
  refine zz_E.n 16 rfl rfl rfl ?_
  refine zz_E.n 17 rfl rfl rfl ?_
  refine zz_E.n 21 rfl rfl rfl ?_
  refine zz_E.ret rfl rfl rfl ?_
  refine zz_E.n 7 rfl rfl rfl ?_
  refine zz_E.n 9 rfl rfl rfl ?_
  refine zz_E.jf 12 rfl (by rfl) (by decide) rfl ?_
  refine zz_E.n 13 rfl rfl rfl ?_
  refine zz_E.ret rfl rfl rfl ?_
  refine zz_E.kt 652 rfl (by rfl) (by decide) rfl ?_
  refine zz_E.n 655 rfl rfl rfl ?_
  refine zz_E.n 18 rfl rfl rfl ?_
  refine zz_E.n 19 rfl rfl rfl ?_
  refine zz_E.n 20 rfl rfl rfl ?_
  refine zz_E.n 21 rfl rfl rfl ?_
  refine zz_E.n 23 rfl rfl rfl ?_
  refine zz_E.n 24 rfl rfl rfl ?_
  refine zz_E.kt 658 rfl (by rfl) (by decide) rfl ?_
  refine zz_E.n 659 rfl rfl rfl ?_
  refine zz_E.ret rfl rfl rfl ?_
  exact ⟨rfl, by decide +kernel, by decide +kernel⟩
set_option maxRecDepth 100000 in
set_option maxHeartbeats 8000000 in
theorem zv_k14_2 (xs : Nat → Int32) : zz_E zp_P zt_tf zt_fd (zt_X 6 (fun q => if q = 1 then nI 2 else xs q)) 1000 zm_law 33 zv_L [.int (nI 14)] zv_h zv_Q := by
  refine zz_E.n 536 rfl rfl rfl ?_
  refine zz_E.n 537 rfl rfl rfl ?_
  refine zz_E.n 538 rfl rfl rfl ?_
  refine zz_E.n 539 rfl rfl rfl ?_
  refine zz_E.n 540 rfl rfl rfl ?_
  refine zz_E.n 541 rfl rfl rfl ?_
  refine zz_E.n 542 rfl rfl rfl ?_
  refine zz_E.n 543 rfl rfl rfl ?_
  refine zz_E.n 544 rfl rfl rfl ?_
  refine zz_E.n 545 rfl rfl rfl ?_
  refine zz_E.n 546 rfl rfl rfl ?_
  refine zz_E.n 547 rfl rfl rfl ?_
  refine zz_E.n 548 rfl rfl rfl ?_
  refine zz_E.n 549 rfl rfl rfl ?_
  refine zz_E.n 550 rfl rfl rfl ?_
  refine zz_E.n 551 rfl rfl rfl ?_
  refine zz_E.n 552 rfl rfl rfl ?_
  refine zz_E.cl (M' := zm_16) 555 rfl rfl (by decide) rfl rfl ⟨rfl, Nat.le_of_ble_eq_true rfl⟩ rfl ?_
  refine zz_E.n 1 rfl rfl rfl ?_
  refine zz_E.cl (M' := zm_21) 4 rfl rfl (by decide) rfl rfl ⟨rfl, Nat.le_of_ble_eq_true rfl⟩ rfl ?_
  refine zz_E.n 1 rfl rfl rfl ?_
  refine zz_E.jf 4 rfl (by rfl) (by decide) rfl ?_
  refine zz_E.n 5 rfl rfl rfl ?_
  refine zz_E.n 7 rfl rfl rfl ?_
  refine zz_E.kf 10 rfl (by rfl) (by decide) rfl ?_
  refine zz_E.n 11 rfl rfl rfl ?_
  refine zz_E.n 15 rfl rfl rfl ?_
  refine zz_E.ret rfl rfl rfl ?_
  refine zz_E.jf 7 rfl (by rfl) (by decide) rfl ?_
  refine zz_E.n 8 rfl rfl rfl ?_
  refine zz_E.n 11 rfl rfl rfl ?_
  refine zz_E.n 12 rfl rfl rfl ?_
  refine zz_E.cl (M' := zm_23) 15 rfl rfl (by decide) rfl rfl ⟨rfl, Nat.le_of_ble_eq_true rfl⟩ rfl ?_
  refine zz_E.n 1 rfl rfl rfl ?_
  refine zz_E.n 4 rfl rfl rfl ?_
  refine zz_E.n 5 rfl rfl rfl ?_
  refine zz_E.n 6 rfl rfl rfl ?_
  refine zz_E.jf 9 rfl (by rfl) (by decide) rfl ?_
  refine zz_E.n 10 rfl rfl rfl ?_
  refine zz_E.n 21 rfl rfl rfl ?_
  refine zz_E.ret rfl rfl rfl ?_
  refine zz_E.n 16 rfl rfl rfl ?_
  refine zz_E.kf 19 rfl (by rfl) (by decide) rfl ?_
  refine zz_E.n 20 rfl rfl rfl ?_
  refine zz_E.ret rfl rfl rfl ?_
  refine zz_E.n 556 rfl rfl rfl ?_
  refine zz_E.n 557 rfl rfl rfl ?_
  refine zz_E.n 558 rfl rfl rfl ?_
  refine zz_E.n 559 rfl rfl rfl ?_
  refine zz_E.n 560 rfl rfl rfl ?_
  refine zz_E.n 561 rfl rfl rfl ?_
  refine zz_E.n 562 rfl rfl rfl ?_
  refine zz_E.n 563 rfl rfl rfl ?_
  refine zz_E.n 564 rfl rfl rfl ?_
  refine zz_E.n 565 rfl rfl rfl ?_
  refine zz_E.n 566 rfl rfl rfl ?_
  refine zz_E.n 567 rfl rfl rfl ?_
  refine zz_E.n 568 rfl rfl rfl ?_
  refine zz_E.n 569 rfl rfl rfl ?_
  refine zz_E.n 570 rfl rfl rfl ?_
  refine zz_E.n 571 rfl rfl rfl ?_
  refine zz_E.cl (M' := zm_81) 574 rfl rfl (by decide) rfl rfl ⟨rfl, Nat.le_of_ble_eq_true rfl⟩ rfl ?_
  refine zz_E.n 1 rfl rfl rfl ?_
  refine zz_E.n 2 rfl rfl rfl ?_
  refine zz_E.cl (M' := zm_79) 5 rfl rfl (by decide) rfl rfl ⟨rfl, Nat.le_of_ble_eq_true rfl⟩ rfl ?_
  refine zz_E.n 1 rfl rfl rfl ?_
  refine zz_E.cl (M' := zm_73) 4 rfl rfl (by decide) rfl rfl ⟨rfl, Nat.le_of_ble_eq_true rfl⟩ rfl ?_
  refine zz_E.n 1 rfl rfl rfl ?_
  refine zz_E.jf 4 rfl (by rfl) (by decide) rfl ?_
  refine zz_E.n 5 rfl rfl rfl ?_
  refine zz_E.n 7 rfl rfl rfl ?_
  refine zz_E.kf 10 rfl (by rfl) (by decide) rfl ?_
  refine zz_E.n 11 rfl rfl rfl ?_
  refine zz_E.n 15 rfl rfl rfl ?_
  refine zz_E.ret rfl rfl rfl ?_
  refine zz_E.jf 7 rfl (by rfl) (by decide) rfl ?_
  refine zz_E.n 8 rfl rfl rfl ?_
  refine zz_E.n 11 rfl rfl rfl ?_
  refine zz_E.n 14 rfl rfl rfl ?_
  refine zz_E.n 15 rfl rfl rfl ?_
  refine zz_E.n 16 rfl rfl rfl ?_
  refine zz_E.n 17 rfl rfl rfl ?_
  refine zz_E.n 21 rfl rfl rfl ?_
  refine zz_E.ret rfl rfl rfl ?_
  refine zz_E.n 7 rfl rfl rfl ?_
  refine zz_E.n 9 rfl rfl rfl ?_
  refine zz_E.jf 12 rfl (by rfl) (by decide) rfl ?_
  refine zz_E.n 13 rfl rfl rfl ?_
  refine zz_E.ret rfl rfl rfl ?_
  refine zz_E.kt 652 rfl (by rfl) (by decide) rfl ?_
  refine zz_E.n 655 rfl rfl rfl ?_
  refine zz_E.n 18 rfl rfl rfl ?_
  refine zz_E.n 19 rfl rfl rfl ?_
  refine zz_E.n 20 rfl rfl rfl ?_
  refine zz_E.n 21 rfl rfl rfl ?_
  refine zz_E.n 23 rfl rfl rfl ?_
  refine zz_E.n 24 rfl rfl rfl ?_
  refine zz_E.kt 658 rfl (by rfl) (by decide) rfl ?_
  refine zz_E.n 659 rfl rfl rfl ?_
  refine zz_E.ret rfl rfl rfl ?_
  exact ⟨rfl, by decide +kernel, by decide +kernel⟩
set_option maxRecDepth 100000 in
set_option maxHeartbeats 8000000 in
theorem zv_k14_3 (xs : Nat → Int32) : zz_E zp_P zt_tf zt_fd (zt_X 6 (fun q => if q = 1 then nI 3 else xs q)) 1000 zm_law 33 zv_L [.int (nI 14)] zv_h zv_Q := by
  refine zz_E.n 536 rfl rfl rfl ?_
  refine zz_E.n 537 rfl rfl rfl ?_
  refine zz_E.n 538 rfl rfl rfl ?_
  refine zz_E.n 539 rfl rfl rfl ?_
  refine zz_E.n 540 rfl rfl rfl ?_
  refine zz_E.n 541 rfl rfl rfl ?_
  refine zz_E.n 542 rfl rfl rfl ?_
  refine zz_E.n 543 rfl rfl rfl ?_
  refine zz_E.n 544 rfl rfl rfl ?_
  refine zz_E.n 545 rfl rfl rfl ?_
  refine zz_E.n 546 rfl rfl rfl ?_
  refine zz_E.n 547 rfl rfl rfl ?_
  refine zz_E.n 548 rfl rfl rfl ?_
  refine zz_E.n 549 rfl rfl rfl ?_
  refine zz_E.n 550 rfl rfl rfl ?_
  refine zz_E.n 551 rfl rfl rfl ?_
  refine zz_E.n 552 rfl rfl rfl ?_
  refine zz_E.cl (M' := zm_16) 555 rfl rfl (by decide) rfl rfl ⟨rfl, Nat.le_of_ble_eq_true rfl⟩ rfl ?_
  refine zz_E.n 1 rfl rfl rfl ?_
  refine zz_E.cl (M' := zm_21) 4 rfl rfl (by decide) rfl rfl ⟨rfl, Nat.le_of_ble_eq_true rfl⟩ rfl ?_
  refine zz_E.n 1 rfl rfl rfl ?_
  refine zz_E.jf 4 rfl (by rfl) (by decide) rfl ?_
  refine zz_E.n 5 rfl rfl rfl ?_
  refine zz_E.n 7 rfl rfl rfl ?_
  refine zz_E.kf 10 rfl (by rfl) (by decide) rfl ?_
  refine zz_E.n 11 rfl rfl rfl ?_
  refine zz_E.n 15 rfl rfl rfl ?_
  refine zz_E.ret rfl rfl rfl ?_
  refine zz_E.jf 7 rfl (by rfl) (by decide) rfl ?_
  refine zz_E.n 8 rfl rfl rfl ?_
  refine zz_E.n 11 rfl rfl rfl ?_
  refine zz_E.n 12 rfl rfl rfl ?_
  refine zz_E.cl (M' := zm_23) 15 rfl rfl (by decide) rfl rfl ⟨rfl, Nat.le_of_ble_eq_true rfl⟩ rfl ?_
  refine zz_E.n 1 rfl rfl rfl ?_
  refine zz_E.n 4 rfl rfl rfl ?_
  refine zz_E.n 5 rfl rfl rfl ?_
  refine zz_E.n 6 rfl rfl rfl ?_
  refine zz_E.jf 9 rfl (by rfl) (by decide) rfl ?_
  refine zz_E.n 10 rfl rfl rfl ?_
  refine zz_E.n 21 rfl rfl rfl ?_
  refine zz_E.ret rfl rfl rfl ?_
  refine zz_E.n 16 rfl rfl rfl ?_
  refine zz_E.kf 19 rfl (by rfl) (by decide) rfl ?_
  refine zz_E.n 20 rfl rfl rfl ?_
  refine zz_E.ret rfl rfl rfl ?_
  refine zz_E.n 556 rfl rfl rfl ?_
  refine zz_E.n 557 rfl rfl rfl ?_
  refine zz_E.n 558 rfl rfl rfl ?_
  refine zz_E.n 559 rfl rfl rfl ?_
  refine zz_E.n 560 rfl rfl rfl ?_
  refine zz_E.n 561 rfl rfl rfl ?_
  refine zz_E.n 562 rfl rfl rfl ?_
  refine zz_E.n 563 rfl rfl rfl ?_
  refine zz_E.n 564 rfl rfl rfl ?_
  refine zz_E.n 565 rfl rfl rfl ?_
  refine zz_E.n 566 rfl rfl rfl ?_
  refine zz_E.n 567 rfl rfl rfl ?_
  refine zz_E.n 568 rfl rfl rfl ?_
  refine zz_E.n 569 rfl rfl rfl ?_
  refine zz_E.n 570 rfl rfl rfl ?_
  refine zz_E.n 571 rfl rfl rfl ?_
  refine zz_E.cl (M' := zm_81) 574 rfl rfl (by decide) rfl rfl ⟨rfl, Nat.le_of_ble_eq_true rfl⟩ rfl ?_
  refine zz_E.n 1 rfl rfl rfl ?_
  refine zz_E.n 2 rfl rfl rfl ?_
  refine zz_E.cl (M' := zm_79) 5 rfl rfl (by decide) rfl rfl ⟨rfl, Nat.le_of_ble_eq_true rfl⟩ rfl ?_
  refine zz_E.n 1 rfl rfl rfl ?_
  refine zz_E.cl (M' := zm_73) 4 rfl rfl (by decide) rfl rfl ⟨rfl, Nat.le_of_ble_eq_true rfl⟩ rfl ?_
  refine zz_E.n 1 rfl rfl rfl ?_
  refine zz_E.jf 4 rfl (by rfl) (by decide) rfl ?_
  refine zz_E.n 5 rfl rfl rfl ?_
  refine zz_E.n 7 rfl rfl rfl ?_
  refine zz_E.kf 10 rfl (by rfl) (by decide) rfl ?_
  refine zz_E.n 11 rfl rfl rfl ?_
  refine zz_E.n 15 rfl rfl rfl ?_
  refine zz_E.ret rfl rfl rfl ?_
  refine zz_E.jf 7 rfl (by rfl) (by decide) rfl ?_
  refine zz_E.n 8 rfl rfl rfl ?_
  refine zz_E.n 11 rfl rfl rfl ?_
  refine zz_E.n 14 rfl rfl rfl ?_
  refine zz_E.n 15 rfl rfl rfl ?_
  refine zz_E.n 16 rfl rfl rfl ?_
  refine zz_E.n 17 rfl rfl rfl ?_
  refine zz_E.n 21 rfl rfl rfl ?_
  refine zz_E.ret rfl rfl rfl ?_
  refine zz_E.n 7 rfl rfl rfl ?_
  refine zz_E.n 9 rfl rfl rfl ?_
  refine zz_E.jf 12 rfl (by rfl) (by decide) rfl ?_
  refine zz_E.n 13 rfl rfl rfl ?_
  refine zz_E.ret rfl rfl rfl ?_
  refine zz_E.kt 652 rfl (by rfl) (by decide) rfl ?_
  refine zz_E.n 655 rfl rfl rfl ?_
  refine zz_E.n 18 rfl rfl rfl ?_
  refine zz_E.n 19 rfl rfl rfl ?_
  refine zz_E.n 20 rfl rfl rfl ?_
  refine zz_E.n 21 rfl rfl rfl ?_
  refine zz_E.n 23 rfl rfl rfl ?_
  refine zz_E.n 24 rfl rfl rfl ?_
  refine zz_E.kt 658 rfl (by rfl) (by decide) rfl ?_
  refine zz_E.n 659 rfl rfl rfl ?_
  refine zz_E.ret rfl rfl rfl ?_
  exact ⟨rfl, by decide +kernel, by decide +kernel⟩
set_option maxRecDepth 100000 in
set_option maxHeartbeats 8000000 in
theorem zv_k14_4 (xs : Nat → Int32) : zz_E zp_P zt_tf zt_fd (zt_X 6 (fun q => if q = 1 then nI 4 else xs q)) 1000 zm_law 33 zv_L [.int (nI 14)] zv_h zv_Q := by
  refine zz_E.n 536 rfl rfl rfl ?_
  refine zz_E.n 537 rfl rfl rfl ?_
  refine zz_E.n 538 rfl rfl rfl ?_
  refine zz_E.n 539 rfl rfl rfl ?_
  refine zz_E.n 540 rfl rfl rfl ?_
  refine zz_E.n 541 rfl rfl rfl ?_
  refine zz_E.n 542 rfl rfl rfl ?_
  refine zz_E.n 543 rfl rfl rfl ?_
  refine zz_E.n 544 rfl rfl rfl ?_
  refine zz_E.n 545 rfl rfl rfl ?_
  refine zz_E.n 546 rfl rfl rfl ?_
  refine zz_E.n 547 rfl rfl rfl ?_
  refine zz_E.n 548 rfl rfl rfl ?_
  refine zz_E.n 549 rfl rfl rfl ?_
  refine zz_E.n 550 rfl rfl rfl ?_
  refine zz_E.n 551 rfl rfl rfl ?_
  refine zz_E.n 552 rfl rfl rfl ?_
  refine zz_E.cl (M' := zm_16) 555 rfl rfl (by decide) rfl rfl ⟨rfl, Nat.le_of_ble_eq_true rfl⟩ rfl ?_
  refine zz_E.n 1 rfl rfl rfl ?_
  refine zz_E.cl (M' := zm_21) 4 rfl rfl (by decide) rfl rfl ⟨rfl, Nat.le_of_ble_eq_true rfl⟩ rfl ?_
  refine zz_E.n 1 rfl rfl rfl ?_
  refine zz_E.jf 4 rfl (by rfl) (by decide) rfl ?_
  refine zz_E.n 5 rfl rfl rfl ?_
  refine zz_E.n 7 rfl rfl rfl ?_
  refine zz_E.kf 10 rfl (by rfl) (by decide) rfl ?_
  refine zz_E.n 11 rfl rfl rfl ?_
  refine zz_E.n 15 rfl rfl rfl ?_
  refine zz_E.ret rfl rfl rfl ?_
  refine zz_E.jf 7 rfl (by rfl) (by decide) rfl ?_
  refine zz_E.n 8 rfl rfl rfl ?_
  refine zz_E.n 11 rfl rfl rfl ?_
  refine zz_E.n 12 rfl rfl rfl ?_
  refine zz_E.cl (M' := zm_23) 15 rfl rfl (by decide) rfl rfl ⟨rfl, Nat.le_of_ble_eq_true rfl⟩ rfl ?_
  refine zz_E.n 1 rfl rfl rfl ?_
  refine zz_E.n 4 rfl rfl rfl ?_
  refine zz_E.n 5 rfl rfl rfl ?_
  refine zz_E.n 6 rfl rfl rfl ?_
  refine zz_E.jf 9 rfl (by rfl) (by decide) rfl ?_
  refine zz_E.n 10 rfl rfl rfl ?_
  refine zz_E.n 21 rfl rfl rfl ?_
  refine zz_E.ret rfl rfl rfl ?_
  refine zz_E.n 16 rfl rfl rfl ?_
  refine zz_E.kf 19 rfl (by rfl) (by decide) rfl ?_
  refine zz_E.n 20 rfl rfl rfl ?_
  refine zz_E.ret rfl rfl rfl ?_
  refine zz_E.n 556 rfl rfl rfl ?_
  refine zz_E.n 557 rfl rfl rfl ?_
  refine zz_E.n 558 rfl rfl rfl ?_
  refine zz_E.n 559 rfl rfl rfl ?_
  refine zz_E.n 560 rfl rfl rfl ?_
  refine zz_E.n 561 rfl rfl rfl ?_
  refine zz_E.n 562 rfl rfl rfl ?_
  refine zz_E.n 563 rfl rfl rfl ?_
  refine zz_E.n 564 rfl rfl rfl ?_
  refine zz_E.n 565 rfl rfl rfl ?_
  refine zz_E.n 566 rfl rfl rfl ?_
  refine zz_E.n 567 rfl rfl rfl ?_
  refine zz_E.n 568 rfl rfl rfl ?_
  refine zz_E.n 569 rfl rfl rfl ?_
  refine zz_E.n 570 rfl rfl rfl ?_
  refine zz_E.n 571 rfl rfl rfl ?_
  refine zz_E.cl (M' := zm_81) 574 rfl rfl (by decide) rfl rfl ⟨rfl, Nat.le_of_ble_eq_true rfl⟩ rfl ?_
  refine zz_E.n 1 rfl rfl rfl ?_
  refine zz_E.n 2 rfl rfl rfl ?_
  refine zz_E.cl (M' := zm_79) 5 rfl rfl (by decide) rfl rfl ⟨rfl, Nat.le_of_ble_eq_true rfl⟩ rfl ?_
  refine zz_E.n 1 rfl rfl rfl ?_
  refine zz_E.cl (M' := zm_73) 4 rfl rfl (by decide) rfl rfl ⟨rfl, Nat.le_of_ble_eq_true rfl⟩ rfl ?_
  refine zz_E.n 1 rfl rfl rfl ?_
  refine zz_E.jf 4 rfl (by rfl) (by decide) rfl ?_
  refine zz_E.n 5 rfl rfl rfl ?_
  refine zz_E.n 7 rfl rfl rfl ?_
  refine zz_E.kf 10 rfl (by rfl) (by decide) rfl ?_
  refine zz_E.n 11 rfl rfl rfl ?_
  refine zz_E.n 15 rfl rfl rfl ?_
  refine zz_E.ret rfl rfl rfl ?_
  refine zz_E.jf 7 rfl (by rfl) (by decide) rfl ?_
  refine zz_E.n 8 rfl rfl rfl ?_
  refine zz_E.n 11 rfl rfl rfl ?_
  refine zz_E.n 14 rfl rfl rfl ?_
  refine zz_E.n 15 rfl rfl rfl ?_
  refine zz_E.n 16 rfl rfl rfl ?_
  refine zz_E.n 17 rfl rfl rfl ?_
  refine zz_E.n 21 rfl rfl rfl ?_
  refine zz_E.ret rfl rfl rfl ?_
  refine zz_E.n 7 rfl rfl rfl ?_
  refine zz_E.n 9 rfl rfl rfl ?_
  refine zz_E.jf 12 rfl (by rfl) (by decide) rfl ?_
  refine zz_E.n 13 rfl rfl rfl ?_
  refine zz_E.ret rfl rfl rfl ?_
  refine zz_E.kt 652 rfl (by rfl) (by decide) rfl ?_
  refine zz_E.n 655 rfl rfl rfl ?_
  refine zz_E.n 18 rfl rfl rfl ?_
  refine zz_E.n 19 rfl rfl rfl ?_
  refine zz_E.n 20 rfl rfl rfl ?_
  refine zz_E.n 21 rfl rfl rfl ?_
  refine zz_E.n 23 rfl rfl rfl ?_
  refine zz_E.n 24 rfl rfl rfl ?_
  refine zz_E.kt 658 rfl (by rfl) (by decide) rfl ?_
  refine zz_E.n 659 rfl rfl rfl ?_
  refine zz_E.ret rfl rfl rfl ?_
  exact ⟨rfl, by decide +kernel, by decide +kernel⟩
set_option maxRecDepth 100000 in
set_option maxHeartbeats 8000000 in
theorem zv_k14_5 (xs : Nat → Int32) : zz_E zp_P zt_tf zt_fd (zt_X 6 (fun q => if q = 1 then nI 5 else xs q)) 1000 zm_law 33 zv_L [.int (nI 14)] zv_h zv_Q := by
  refine zz_E.n 536 rfl rfl rfl ?_
  refine zz_E.n 537 rfl rfl rfl ?_
  refine zz_E.n 538 rfl rfl rfl ?_
  refine zz_E.n 539 rfl rfl rfl ?_
  refine zz_E.n 540 rfl rfl rfl ?_
  refine zz_E.n 541 rfl rfl rfl ?_
  refine zz_E.n 542 rfl rfl rfl ?_
  refine zz_E.n 543 rfl rfl rfl ?_
  refine zz_E.n 544 rfl rfl rfl ?_
  refine zz_E.n 545 rfl rfl rfl ?_
  refine zz_E.n 546 rfl rfl rfl ?_
  refine zz_E.n 547 rfl rfl rfl ?_
  refine zz_E.n 548 rfl rfl rfl ?_
  refine zz_E.n 549 rfl rfl rfl ?_
  refine zz_E.n 550 rfl rfl rfl ?_
  refine zz_E.n 551 rfl rfl rfl ?_
  refine zz_E.n 552 rfl rfl rfl ?_
  refine zz_E.cl (M' := zm_16) 555 rfl rfl (by decide) rfl rfl ⟨rfl, Nat.le_of_ble_eq_true rfl⟩ rfl ?_
  refine zz_E.n 1 rfl rfl rfl ?_
  refine zz_E.cl (M' := zm_21) 4 rfl rfl (by decide) rfl rfl ⟨rfl, Nat.le_of_ble_eq_true rfl⟩ rfl ?_
  refine zz_E.n 1 rfl rfl rfl ?_
  refine zz_E.jf 4 rfl (by rfl) (by decide) rfl ?_
  refine zz_E.n 5 rfl rfl rfl ?_
  refine zz_E.n 7 rfl rfl rfl ?_
  refine zz_E.kf 10 rfl (by rfl) (by decide) rfl ?_
  refine zz_E.n 11 rfl rfl rfl ?_
  refine zz_E.n 15 rfl rfl rfl ?_
  refine zz_E.ret rfl rfl rfl ?_
  refine zz_E.jf 7 rfl (by rfl) (by decide) rfl ?_
  refine zz_E.n 8 rfl rfl rfl ?_
  refine zz_E.n 11 rfl rfl rfl ?_
  refine zz_E.n 12 rfl rfl rfl ?_
  refine zz_E.cl (M' := zm_23) 15 rfl rfl (by decide) rfl rfl ⟨rfl, Nat.le_of_ble_eq_true rfl⟩ rfl ?_
  refine zz_E.n 1 rfl rfl rfl ?_
  refine zz_E.n 4 rfl rfl rfl ?_
  refine zz_E.n 5 rfl rfl rfl ?_
  refine zz_E.n 6 rfl rfl rfl ?_
  refine zz_E.jf 9 rfl (by rfl) (by decide) rfl ?_
  refine zz_E.n 10 rfl rfl rfl ?_
  refine zz_E.n 21 rfl rfl rfl ?_
  refine zz_E.ret rfl rfl rfl ?_
  refine zz_E.n 16 rfl rfl rfl ?_
  refine zz_E.kf 19 rfl (by rfl) (by decide) rfl ?_
  refine zz_E.n 20 rfl rfl rfl ?_
  refine zz_E.ret rfl rfl rfl ?_
  refine zz_E.n 556 rfl rfl rfl ?_
  refine zz_E.n 557 rfl rfl rfl ?_
  refine zz_E.n 558 rfl rfl rfl ?_
  refine zz_E.n 559 rfl rfl rfl ?_
  refine zz_E.n 560 rfl rfl rfl ?_
  refine zz_E.n 561 rfl rfl rfl ?_
  refine zz_E.n 562 rfl rfl rfl ?_
  refine zz_E.n 563 rfl rfl rfl ?_
  refine zz_E.n 564 rfl rfl rfl ?_
  refine zz_E.n 565 rfl rfl rfl ?_
  refine zz_E.n 566 rfl rfl rfl ?_
  refine zz_E.n 567 rfl rfl rfl ?_
  refine zz_E.n 568 rfl rfl rfl ?_
  refine zz_E.n 569 rfl rfl rfl ?_
  refine zz_E.n 570 rfl rfl rfl ?_
  refine zz_E.n 571 rfl rfl rfl ?_
  refine zz_E.cl (M' := zm_81) 574 rfl rfl (by decide) rfl rfl ⟨rfl, Nat.le_of_ble_eq_true rfl⟩ rfl ?_
  refine zz_E.n 1 rfl rfl rfl ?_
  refine zz_E.n 2 rfl rfl rfl ?_
  refine zz_E.cl (M' := zm_79) 5 rfl rfl (by decide) rfl rfl ⟨rfl, Nat.le_of_ble_eq_true rfl⟩ rfl ?_
  refine zz_E.n 1 rfl rfl rfl ?_
  refine zz_E.cl (M' := zm_73) 4 rfl rfl (by decide) rfl rfl ⟨rfl, Nat.le_of_ble_eq_true rfl⟩ rfl ?_
  refine zz_E.n 1 rfl rfl rfl ?_
  refine zz_E.jf 4 rfl (by rfl) (by decide) rfl ?_
  refine zz_E.n 5 rfl rfl rfl ?_
  refine zz_E.n 7 rfl rfl rfl ?_
  refine zz_E.kf 10 rfl (by rfl) (by decide) rfl ?_
  refine zz_E.n 11 rfl rfl rfl ?_
  refine zz_E.n 15 rfl rfl rfl ?_
  refine zz_E.ret rfl rfl rfl ?_
  refine zz_E.jf 7 rfl (by rfl) (by decide) rfl ?_
  refine zz_E.n 8 rfl rfl rfl ?_
  refine zz_E.n 11 rfl rfl rfl ?_
  refine zz_E.n 14 rfl rfl rfl ?_
  refine zz_E.n 15 rfl rfl rfl ?_
  refine zz_E.n 16 rfl rfl rfl ?_
  refine zz_E.n 17 rfl rfl rfl ?_
  refine zz_E.n 21 rfl rfl rfl ?_
  refine zz_E.ret rfl rfl rfl ?_
  refine zz_E.n 7 rfl rfl rfl ?_
  refine zz_E.n 9 rfl rfl rfl ?_
  refine zz_E.jf 12 rfl (by rfl) (by decide) rfl ?_
  refine zz_E.n 13 rfl rfl rfl ?_
  refine zz_E.ret rfl rfl rfl ?_
  refine zz_E.kt 652 rfl (by rfl) (by decide) rfl ?_
  refine zz_E.n 655 rfl rfl rfl ?_
  refine zz_E.n 18 rfl rfl rfl ?_
  refine zz_E.n 19 rfl rfl rfl ?_
  refine zz_E.n 20 rfl rfl rfl ?_
  refine zz_E.n 21 rfl rfl rfl ?_
  refine zz_E.n 23 rfl rfl rfl ?_
  refine zz_E.n 24 rfl rfl rfl ?_
  refine zz_E.kt 658 rfl (by rfl) (by decide) rfl ?_
  refine zz_E.n 659 rfl rfl rfl ?_
  refine zz_E.ret rfl rfl rfl ?_
  exact ⟨rfl, by decide +kernel, by decide +kernel⟩
set_option maxRecDepth 100000 in
set_option maxHeartbeats 8000000 in
theorem zv_k14_6 (xs : Nat → Int32) : zz_E zp_P zt_tf zt_fd (zt_X 6 (fun q => if q = 1 then nI 6 else xs q)) 1000 zm_law 33 zv_L [.int (nI 14)] zv_h zv_Q := by
  refine zz_E.n 536 rfl rfl rfl ?_
  refine zz_E.n 537 rfl rfl rfl ?_
  refine zz_E.n 538 rfl rfl rfl ?_
  refine zz_E.n 539 rfl rfl rfl ?_
  refine zz_E.n 540 rfl rfl rfl ?_
  refine zz_E.n 541 rfl rfl rfl ?_
  refine zz_E.n 542 rfl rfl rfl ?_
  refine zz_E.n 543 rfl rfl rfl ?_
  refine zz_E.n 544 rfl rfl rfl ?_
  refine zz_E.n 545 rfl rfl rfl ?_
  refine zz_E.n 546 rfl rfl rfl ?_
  refine zz_E.n 547 rfl rfl rfl ?_
  refine zz_E.n 548 rfl rfl rfl ?_
  refine zz_E.n 549 rfl rfl rfl ?_
  refine zz_E.n 550 rfl rfl rfl ?_
  refine zz_E.n 551 rfl rfl rfl ?_
  refine zz_E.n 552 rfl rfl rfl ?_
  refine zz_E.cl (M' := zm_16) 555 rfl rfl (by decide) rfl rfl ⟨rfl, Nat.le_of_ble_eq_true rfl⟩ rfl ?_
  refine zz_E.n 1 rfl rfl rfl ?_
  refine zz_E.cl (M' := zm_21) 4 rfl rfl (by decide) rfl rfl ⟨rfl, Nat.le_of_ble_eq_true rfl⟩ rfl ?_
  refine zz_E.n 1 rfl rfl rfl ?_
  refine zz_E.jf 4 rfl (by rfl) (by decide) rfl ?_
  refine zz_E.n 5 rfl rfl rfl ?_
  refine zz_E.n 7 rfl rfl rfl ?_
  refine zz_E.kf 10 rfl (by rfl) (by decide) rfl ?_
  refine zz_E.n 11 rfl rfl rfl ?_
  refine zz_E.n 15 rfl rfl rfl ?_
  refine zz_E.ret rfl rfl rfl ?_
  refine zz_E.jf 7 rfl (by rfl) (by decide) rfl ?_
  refine zz_E.n 8 rfl rfl rfl ?_
  refine zz_E.n 11 rfl rfl rfl ?_
  refine zz_E.n 12 rfl rfl rfl ?_
  refine zz_E.cl (M' := zm_23) 15 rfl rfl (by decide) rfl rfl ⟨rfl, Nat.le_of_ble_eq_true rfl⟩ rfl ?_
  refine zz_E.n 1 rfl rfl rfl ?_
  refine zz_E.n 4 rfl rfl rfl ?_
  refine zz_E.n 5 rfl rfl rfl ?_
  refine zz_E.n 6 rfl rfl rfl ?_
  refine zz_E.jf 9 rfl (by rfl) (by decide) rfl ?_
  refine zz_E.n 10 rfl rfl rfl ?_
  refine zz_E.n 21 rfl rfl rfl ?_
  refine zz_E.ret rfl rfl rfl ?_
  refine zz_E.n 16 rfl rfl rfl ?_
  refine zz_E.kf 19 rfl (by rfl) (by decide) rfl ?_
  refine zz_E.n 20 rfl rfl rfl ?_
  refine zz_E.ret rfl rfl rfl ?_
  refine zz_E.n 556 rfl rfl rfl ?_
  refine zz_E.n 557 rfl rfl rfl ?_
  refine zz_E.n 558 rfl rfl rfl ?_
  refine zz_E.n 559 rfl rfl rfl ?_
  refine zz_E.n 560 rfl rfl rfl ?_
  refine zz_E.n 561 rfl rfl rfl ?_
  refine zz_E.n 562 rfl rfl rfl ?_
  refine zz_E.n 563 rfl rfl rfl ?_
  refine zz_E.n 564 rfl rfl rfl ?_
  refine zz_E.n 565 rfl rfl rfl ?_
  refine zz_E.n 566 rfl rfl rfl ?_
  refine zz_E.n 567 rfl rfl rfl ?_
  refine zz_E.n 568 rfl rfl rfl ?_
  refine zz_E.n 569 rfl rfl rfl ?_
  refine zz_E.n 570 rfl rfl rfl ?_
  refine zz_E.n 571 rfl rfl rfl ?_
  refine zz_E.cl (M' := zm_81) 574 rfl rfl (by decide) rfl rfl ⟨rfl, Nat.le_of_ble_eq_true rfl⟩ rfl ?_
  refine zz_E.n 1 rfl rfl rfl ?_
  refine zz_E.n 2 rfl rfl rfl ?_
  refine zz_E.cl (M' := zm_79) 5 rfl rfl (by decide) rfl rfl ⟨rfl, Nat.le_of_ble_eq_true rfl⟩ rfl ?_
  refine zz_E.n 1 rfl rfl rfl ?_
  refine zz_E.cl (M' := zm_73) 4 rfl rfl (by decide) rfl rfl ⟨rfl, Nat.le_of_ble_eq_true rfl⟩ rfl ?_
  refine zz_E.n 1 rfl rfl rfl ?_
  refine zz_E.jf 4 rfl (by rfl) (by decide) rfl ?_
  refine zz_E.n 5 rfl rfl rfl ?_
  refine zz_E.n 7 rfl rfl rfl ?_
  refine zz_E.kf 10 rfl (by rfl) (by decide) rfl ?_
  refine zz_E.n 11 rfl rfl rfl ?_
  refine zz_E.n 15 rfl rfl rfl ?_
  refine zz_E.ret rfl rfl rfl ?_
  refine zz_E.jf 7 rfl (by rfl) (by decide) rfl ?_
  refine zz_E.n 8 rfl rfl rfl ?_
  refine zz_E.n 11 rfl rfl rfl ?_
  refine zz_E.n 14 rfl rfl rfl ?_
  refine zz_E.n 15 rfl rfl rfl ?_
  refine zz_E.n 16 rfl rfl rfl ?_
  refine zz_E.n 17 rfl rfl rfl ?_
  refine zz_E.n 21 rfl rfl rfl ?_
  refine zz_E.ret rfl rfl rfl ?_
  refine zz_E.n 7 rfl rfl rfl ?_
  refine zz_E.n 9 rfl rfl rfl ?_
  refine zz_E.jf 12 rfl (by rfl) (by decide) rfl ?_
  refine zz_E.n 13 rfl rfl rfl ?_
  refine zz_E.ret rfl rfl rfl ?_
  refine zz_E.kt 652 rfl (by rfl) (by decide) rfl ?_
  refine zz_E.n 655 rfl rfl rfl ?_
  refine zz_E.n 18 rfl rfl rfl ?_
  refine zz_E.n 19 rfl rfl rfl ?_
  refine zz_E.n 20 rfl rfl rfl ?_
  refine zz_E.n 21 rfl rfl rfl ?_
  refine zz_E.n 23 rfl rfl rfl ?_
  refine zz_E.n 24 rfl rfl rfl ?_
  refine zz_E.kt 658 rfl (by rfl) (by decide) rfl ?_
  refine zz_E.n 659 rfl rfl rfl ?_
  refine zz_E.ret rfl rfl rfl ?_
  exact ⟨rfl, by decide +kernel, by decide +kernel⟩
set_option maxRecDepth 100000 in
set_option maxHeartbeats 8000000 in
theorem zv_k14_7 (xs : Nat → Int32) : zz_E zp_P zt_tf zt_fd (zt_X 6 (fun q => if q = 1 then nI 7 else xs q)) 1000 zm_law 33 zv_L [.int (nI 14)] zv_h zv_Q := by
  refine zz_E.n 536 rfl rfl rfl ?_
  refine zz_E.n 537 rfl rfl rfl ?_
  refine zz_E.n 538 rfl rfl rfl ?_
  refine zz_E.n 539 rfl rfl rfl ?_
  refine zz_E.n 540 rfl rfl rfl ?_
  refine zz_E.n 541 rfl rfl rfl ?_
  refine zz_E.n 542 rfl rfl rfl ?_
  refine zz_E.n 543 rfl rfl rfl ?_
  refine zz_E.n 544 rfl rfl rfl ?_
  refine zz_E.n 545 rfl rfl rfl ?_
  refine zz_E.n 546 rfl rfl rfl ?_
  refine zz_E.n 547 rfl rfl rfl ?_
  refine zz_E.n 548 rfl rfl rfl ?_
  refine zz_E.n 549 rfl rfl rfl ?_
  refine zz_E.n 550 rfl rfl rfl ?_
  refine zz_E.n 551 rfl rfl rfl ?_
  refine zz_E.n 552 rfl rfl rfl ?_
  refine zz_E.cl (M' := zm_16) 555 rfl rfl (by decide) rfl rfl ⟨rfl, Nat.le_of_ble_eq_true rfl⟩ rfl ?_
  refine zz_E.n 1 rfl rfl rfl ?_
  refine zz_E.cl (M' := zm_21) 4 rfl rfl (by decide) rfl rfl ⟨rfl, Nat.le_of_ble_eq_true rfl⟩ rfl ?_
  refine zz_E.n 1 rfl rfl rfl ?_
  refine zz_E.jf 4 rfl (by rfl) (by decide) rfl ?_
  refine zz_E.n 5 rfl rfl rfl ?_
  refine zz_E.n 7 rfl rfl rfl ?_
  refine zz_E.kf 10 rfl (by rfl) (by decide) rfl ?_
  refine zz_E.n 11 rfl rfl rfl ?_
  refine zz_E.n 15 rfl rfl rfl ?_
  refine zz_E.ret rfl rfl rfl ?_
  refine zz_E.jf 7 rfl (by rfl) (by decide) rfl ?_
  refine zz_E.n 8 rfl rfl rfl ?_
  refine zz_E.n 11 rfl rfl rfl ?_
  refine zz_E.n 12 rfl rfl rfl ?_
  refine zz_E.cl (M' := zm_23) 15 rfl rfl (by decide) rfl rfl ⟨rfl, Nat.le_of_ble_eq_true rfl⟩ rfl ?_
  refine zz_E.n 1 rfl rfl rfl ?_
  refine zz_E.n 4 rfl rfl rfl ?_
  refine zz_E.n 5 rfl rfl rfl ?_
  refine zz_E.n 6 rfl rfl rfl ?_
  refine zz_E.jf 9 rfl (by rfl) (by decide) rfl ?_
  refine zz_E.n 10 rfl rfl rfl ?_
  refine zz_E.n 21 rfl rfl rfl ?_
  refine zz_E.ret rfl rfl rfl ?_
  refine zz_E.n 16 rfl rfl rfl ?_
  refine zz_E.kf 19 rfl (by rfl) (by decide) rfl ?_
  refine zz_E.n 20 rfl rfl rfl ?_
  refine zz_E.ret rfl rfl rfl ?_
  refine zz_E.n 556 rfl rfl rfl ?_
  refine zz_E.n 557 rfl rfl rfl ?_
  refine zz_E.n 558 rfl rfl rfl ?_
  refine zz_E.n 559 rfl rfl rfl ?_
  refine zz_E.n 560 rfl rfl rfl ?_
  refine zz_E.n 561 rfl rfl rfl ?_
  refine zz_E.n 562 rfl rfl rfl ?_
  refine zz_E.n 563 rfl rfl rfl ?_
  refine zz_E.n 564 rfl rfl rfl ?_
  refine zz_E.n 565 rfl rfl rfl ?_
  refine zz_E.n 566 rfl rfl rfl ?_
  refine zz_E.n 567 rfl rfl rfl ?_
  refine zz_E.n 568 rfl rfl rfl ?_
  refine zz_E.n 569 rfl rfl rfl ?_
  refine zz_E.n 570 rfl rfl rfl ?_
  refine zz_E.n 571 rfl rfl rfl ?_
  refine zz_E.cl (M' := zm_81) 574 rfl rfl (by decide) rfl rfl ⟨rfl, Nat.le_of_ble_eq_true rfl⟩ rfl ?_
  refine zz_E.n 1 rfl rfl rfl ?_
  refine zz_E.n 2 rfl rfl rfl ?_
  refine zz_E.cl (M' := zm_79) 5 rfl rfl (by decide) rfl rfl ⟨rfl, Nat.le_of_ble_eq_true rfl⟩ rfl ?_
  refine zz_E.n 1 rfl rfl rfl ?_
  refine zz_E.cl (M' := zm_73) 4 rfl rfl (by decide) rfl rfl ⟨rfl, Nat.le_of_ble_eq_true rfl⟩ rfl ?_
  refine zz_E.n 1 rfl rfl rfl ?_
  refine zz_E.jf 4 rfl (by rfl) (by decide) rfl ?_
  refine zz_E.n 5 rfl rfl rfl ?_
  refine zz_E.n 7 rfl rfl rfl ?_
  refine zz_E.kf 10 rfl (by rfl) (by decide) rfl ?_
  refine zz_E.n 11 rfl rfl rfl ?_
  refine zz_E.n 15 rfl rfl rfl ?_
  refine zz_E.ret rfl rfl rfl ?_
  refine zz_E.jf 7 rfl (by rfl) (by decide) rfl ?_
  refine zz_E.n 8 rfl rfl rfl ?_
  refine zz_E.n 11 rfl rfl rfl ?_
  refine zz_E.n 14 rfl rfl rfl ?_
  refine zz_E.n 15 rfl rfl rfl ?_
  refine zz_E.n 16 rfl rfl rfl ?_
  refine zz_E.n 17 rfl rfl rfl ?_
  refine zz_E.n 21 rfl rfl rfl ?_
  refine zz_E.ret rfl rfl rfl ?_
  refine zz_E.n 7 rfl rfl rfl ?_
  refine zz_E.n 9 rfl rfl rfl ?_
  refine zz_E.jf 12 rfl (by rfl) (by decide) rfl ?_
  refine zz_E.n 13 rfl rfl rfl ?_
  refine zz_E.ret rfl rfl rfl ?_
  refine zz_E.kt 652 rfl (by rfl) (by decide) rfl ?_
  refine zz_E.n 655 rfl rfl rfl ?_
  refine zz_E.n 18 rfl rfl rfl ?_
  refine zz_E.n 19 rfl rfl rfl ?_
  refine zz_E.n 20 rfl rfl rfl ?_
  refine zz_E.n 21 rfl rfl rfl ?_
  refine zz_E.n 23 rfl rfl rfl ?_
  refine zz_E.n 24 rfl rfl rfl ?_
  refine zz_E.kt 658 rfl (by rfl) (by decide) rfl ?_
  refine zz_E.n 659 rfl rfl rfl ?_
  refine zz_E.ret rfl rfl rfl ?_
  exact ⟨rfl, by decide +kernel, by decide +kernel⟩
set_option maxRecDepth 100000 in
set_option maxHeartbeats 8000000 in
theorem zv_k15_0_0 (xs : Nat → Int32) : zz_E zp_P zt_tf zt_fd (zt_X 6 (fun q => if q = 1 then nI 0 else if q = 2 then nI 0 else xs q)) 1000 zm_law 33 zv_L [.int (nI 15)] zv_h zv_Q := by
  refine zz_E.n 579 rfl rfl rfl ?_
  refine zz_E.n 580 rfl rfl rfl ?_
  refine zz_E.n 581 rfl rfl rfl ?_
  refine zz_E.n 582 rfl rfl rfl ?_
  refine zz_E.n 583 rfl rfl rfl ?_
  refine zz_E.n 584 rfl rfl rfl ?_
  refine zz_E.n 585 rfl rfl rfl ?_
  refine zz_E.n 586 rfl rfl rfl ?_
  refine zz_E.n 587 rfl rfl rfl ?_
  refine zz_E.n 588 rfl rfl rfl ?_
  refine zz_E.n 589 rfl rfl rfl ?_
  refine zz_E.n 590 rfl rfl rfl ?_
  refine zz_E.cl (M' := zm_17) 593 rfl rfl (by decide) rfl rfl ⟨rfl, Nat.le_of_ble_eq_true rfl⟩ rfl ?_
  refine zz_E.n 1 rfl rfl rfl ?_
  refine zz_E.cl (M' := zm_21) 4 rfl rfl (by decide) rfl rfl ⟨rfl, Nat.le_of_ble_eq_true rfl⟩ rfl ?_
  refine zz_E.n 1 rfl rfl rfl ?_
  refine zz_E.jf 4 rfl (by rfl) (by decide) rfl ?_
  refine zz_E.n 5 rfl rfl rfl ?_
  refine zz_E.n 7 rfl rfl rfl ?_
  refine zz_E.kf 10 rfl (by rfl) (by decide) rfl ?_
  refine zz_E.n 11 rfl rfl rfl ?_
  refine zz_E.n 15 rfl rfl rfl ?_
  refine zz_E.ret rfl rfl rfl ?_
  refine zz_E.jf 7 rfl (by rfl) (by decide) rfl ?_
  refine zz_E.n 8 rfl rfl rfl ?_
  refine zz_E.cl (M' := zm_21) 11 rfl rfl (by decide) rfl rfl ⟨rfl, Nat.le_of_ble_eq_true rfl⟩ rfl ?_
  refine zz_E.n 1 rfl rfl rfl ?_
  refine zz_E.jf 4 rfl (by rfl) (by decide) rfl ?_
  refine zz_E.n 5 rfl rfl rfl ?_
  refine zz_E.n 7 rfl rfl rfl ?_
  refine zz_E.kf 10 rfl (by rfl) (by decide) rfl ?_
  refine zz_E.n 11 rfl rfl rfl ?_
  refine zz_E.n 15 rfl rfl rfl ?_
  refine zz_E.ret rfl rfl rfl ?_
  refine zz_E.jf 14 rfl (by rfl) (by decide) rfl ?_
  refine zz_E.n 15 rfl rfl rfl ?_
  refine zz_E.n 18 rfl rfl rfl ?_
  refine zz_E.n 19 rfl rfl rfl ?_
  refine zz_E.n 20 rfl rfl rfl ?_
  refine zz_E.cl (M' := zm_27) 23 rfl rfl (by decide) rfl rfl ⟨rfl, Nat.le_of_ble_eq_true rfl⟩ rfl ?_
  refine zz_E.n 1 rfl rfl rfl ?_
  refine zz_E.n 4 rfl rfl rfl ?_
  refine zz_E.n 5 rfl rfl rfl ?_
  refine zz_E.n 6 rfl rfl rfl ?_
  refine zz_E.n 7 rfl rfl rfl ?_
  refine zz_E.n 10 rfl rfl rfl ?_
  refine zz_E.n 11 rfl rfl rfl ?_
  refine zz_E.n 12 rfl rfl rfl ?_
  refine zz_E.kf 15 rfl (by rfl) (by decide) rfl ?_
  refine zz_E.n 16 rfl rfl rfl ?_
  refine zz_E.n 20 rfl rfl rfl ?_
  refine zz_E.n 21 rfl rfl rfl ?_
  refine zz_E.n 22 rfl rfl rfl ?_
  refine zz_E.n 24 rfl rfl rfl ?_
  refine zz_E.n 26 rfl rfl rfl ?_
  refine zz_E.n 27 rfl rfl rfl ?_
  refine zz_E.n 30 rfl rfl rfl ?_
  refine zz_E.n 31 rfl rfl rfl ?_
  refine zz_E.n 32 rfl rfl rfl ?_
  refine zz_E.kt 72 rfl (by rfl) (by decide) rfl ?_
  refine zz_E.n 73 rfl rfl rfl ?_
  refine zz_E.ret rfl rfl rfl ?_
  refine zz_E.jf 26 rfl (by rfl) (by decide) rfl ?_
  refine zz_E.n 27 rfl rfl rfl ?_
  refine zz_E.n 31 rfl rfl rfl ?_
  refine zz_E.ret rfl rfl rfl ?_
  refine zz_E.n 594 rfl rfl rfl ?_
  refine zz_E.n 595 rfl rfl rfl ?_
  refine zz_E.n 596 rfl rfl rfl ?_
  refine zz_E.n 597 rfl rfl rfl ?_
  refine zz_E.n 598 rfl rfl rfl ?_
  refine zz_E.n 599 rfl rfl rfl ?_
  refine zz_E.n 600 rfl rfl rfl ?_
  refine zz_E.n 601 rfl rfl rfl ?_
  refine zz_E.n 602 rfl rfl rfl ?_
  refine zz_E.n 603 rfl rfl rfl ?_
  refine zz_E.n 604 rfl rfl rfl ?_
  refine zz_E.cl (M' := zm_82) 607 rfl rfl (by decide) rfl rfl ⟨rfl, Nat.le_of_ble_eq_true rfl⟩ rfl ?_
  refine zz_E.n 1 rfl rfl rfl ?_
  refine zz_E.cl (M' := zm_73) 4 rfl rfl (by decide) rfl rfl ⟨rfl, Nat.le_of_ble_eq_true rfl⟩ rfl ?_
  refine zz_E.n 1 rfl rfl rfl ?_
  refine zz_E.jf 4 rfl (by rfl) (by decide) rfl ?_
  refine zz_E.n 5 rfl rfl rfl ?_
  refine zz_E.n 7 rfl rfl rfl ?_
  refine zz_E.kf 10 rfl (by rfl) (by decide) rfl ?_
  refine zz_E.n 11 rfl rfl rfl ?_
  refine zz_E.n 15 rfl rfl rfl ?_
  refine zz_E.ret rfl rfl rfl ?_
  refine zz_E.jf 7 rfl (by rfl) (by decide) rfl ?_
  refine zz_E.n 8 rfl rfl rfl ?_
  refine zz_E.cl (M' := zm_73) 11 rfl rfl (by decide) rfl rfl ⟨rfl, Nat.le_of_ble_eq_true rfl⟩ rfl ?_
  refine zz_E.n 1 rfl rfl rfl ?_
  refine zz_E.jf 4 rfl (by rfl) (by decide) rfl ?_
  refine zz_E.n 5 rfl rfl rfl ?_
  refine zz_E.n 7 rfl rfl rfl ?_
  refine zz_E.kf 10 rfl (by rfl) (by decide) rfl ?_
  refine zz_E.n 11 rfl rfl rfl ?_
  refine zz_E.n 15 rfl rfl rfl ?_
  refine zz_E.ret rfl rfl rfl ?_
  refine zz_E.jt 16 rfl (by rfl) (by decide) rfl ?_
  refine zz_E.n 19 rfl rfl rfl ?_
  refine zz_E.n 20 rfl rfl rfl ?_
  refine zz_E.n 21 rfl rfl rfl ?_
  refine zz_E.n 22 rfl rfl rfl ?_
  refine zz_E.n 25 rfl rfl rfl ?_
  refine zz_E.n 26 rfl rfl rfl ?_
  refine zz_E.n 27 rfl rfl rfl ?_
  refine zz_E.n 29 rfl rfl rfl ?_
  refine zz_E.n 30 rfl rfl rfl ?_
  refine zz_E.n 33 rfl rfl rfl ?_
  refine zz_E.n 34 rfl rfl rfl ?_
  refine zz_E.n 35 rfl rfl rfl ?_
  refine zz_E.jt 48 rfl (by rfl) (by decide) rfl ?_
  refine zz_E.n 49 rfl rfl rfl ?_
  refine zz_E.n 52 rfl rfl rfl ?_
  refine zz_E.n 53 rfl rfl rfl ?_
  refine zz_E.n 54 rfl rfl rfl ?_
  refine zz_E.n 55 rfl rfl rfl ?_
  refine zz_E.n 58 rfl rfl rfl ?_
  refine zz_E.n 60 rfl rfl rfl ?_
  refine zz_E.n 61 rfl rfl rfl ?_
  refine zz_E.kf 64 rfl (by rfl) (by decide) rfl ?_
  refine zz_E.n 65 rfl rfl rfl ?_
  refine zz_E.n 68 rfl rfl rfl ?_
  refine zz_E.n 69 rfl rfl rfl ?_
  refine zz_E.n 70 rfl rfl rfl ?_
  refine zz_E.jt 93 rfl (by rfl) (by decide) rfl ?_
  refine zz_E.n 94 rfl rfl rfl ?_
  refine zz_E.n 98 rfl rfl rfl ?_
  refine zz_E.ret rfl rfl rfl ?_
  refine zz_E.kt 652 rfl (by rfl) (by decide) rfl ?_
  refine zz_E.n 655 rfl rfl rfl ?_
  refine zz_E.n 18 rfl rfl rfl ?_
  refine zz_E.n 19 rfl rfl rfl ?_
  refine zz_E.n 20 rfl rfl rfl ?_
  refine zz_E.n 21 rfl rfl rfl ?_
  refine zz_E.n 23 rfl rfl rfl ?_
  refine zz_E.n 24 rfl rfl rfl ?_
  refine zz_E.kt 658 rfl (by rfl) (by decide) rfl ?_
  refine zz_E.n 659 rfl rfl rfl ?_
  refine zz_E.ret rfl rfl rfl ?_
  exact ⟨rfl, by decide +kernel, by decide +kernel⟩
set_option maxRecDepth 100000 in
set_option maxHeartbeats 8000000 in
theorem zv_k15_0_1 (xs : Nat → Int32) : zz_E zp_P zt_tf zt_fd (zt_X 6 (fun q => if q = 1 then nI 0 else if q = 2 then nI 1 else xs q)) 1000 zm_law 33 zv_L [.int (nI 15)] zv_h zv_Q := by
  refine zz_E.n 579 rfl rfl rfl ?_
  refine zz_E.n 580 rfl rfl rfl ?_
  refine zz_E.n 581 rfl rfl rfl ?_
  refine zz_E.n 582 rfl rfl rfl ?_
  refine zz_E.n 583 rfl rfl rfl ?_
  refine zz_E.n 584 rfl rfl rfl ?_
  refine zz_E.n 585 rfl rfl rfl ?_
  refine zz_E.n 586 rfl rfl rfl ?_
  refine zz_E.n 587 rfl rfl rfl ?_
  refine zz_E.n 588 rfl rfl rfl ?_
  refine zz_E.n 589 rfl rfl rfl ?_
  refine zz_E.n 590 rfl rfl rfl ?_
  refine zz_E.cl (M' := zm_17) 593 rfl rfl (by decide) rfl rfl ⟨rfl, Nat.le_of_ble_eq_true rfl⟩ rfl ?_
  refine zz_E.n 1 rfl rfl rfl ?_
  refine zz_E.cl (M' := zm_21) 4 rfl rfl (by decide) rfl rfl ⟨rfl, Nat.le_of_ble_eq_true rfl⟩ rfl ?_
  refine zz_E.n 1 rfl rfl rfl ?_
  refine zz_E.jf 4 rfl (by rfl) (by decide) rfl ?_
  refine zz_E.n 5 rfl rfl rfl ?_
  refine zz_E.n 7 rfl rfl rfl ?_
  refine zz_E.kf 10 rfl (by rfl) (by decide) rfl ?_
  refine zz_E.n 11 rfl rfl rfl ?_
  refine zz_E.n 15 rfl rfl rfl ?_
  refine zz_E.ret rfl rfl rfl ?_
  refine zz_E.jf 7 rfl (by rfl) (by decide) rfl ?_
  refine zz_E.n 8 rfl rfl rfl ?_
  refine zz_E.cl (M' := zm_21) 11 rfl rfl (by decide) rfl rfl ⟨rfl, Nat.le_of_ble_eq_true rfl⟩ rfl ?_
  refine zz_E.n 1 rfl rfl rfl ?_
  refine zz_E.jf 4 rfl (by rfl) (by decide) rfl ?_
  refine zz_E.n 5 rfl rfl rfl ?_
  refine zz_E.n 7 rfl rfl rfl ?_
  refine zz_E.kf 10 rfl (by rfl) (by decide) rfl ?_
  refine zz_E.n 11 rfl rfl rfl ?_
  refine zz_E.n 15 rfl rfl rfl ?_
  refine zz_E.ret rfl rfl rfl ?_
  refine zz_E.jf 14 rfl (by rfl) (by decide) rfl ?_
  refine zz_E.n 15 rfl rfl rfl ?_
  refine zz_E.n 18 rfl rfl rfl ?_
  refine zz_E.n 19 rfl rfl rfl ?_
  refine zz_E.n 20 rfl rfl rfl ?_
  refine zz_E.cl (M' := zm_27) 23 rfl rfl (by decide) rfl rfl ⟨rfl, Nat.le_of_ble_eq_true rfl⟩ rfl ?_
  refine zz_E.n 1 rfl rfl rfl ?_
  refine zz_E.n 4 rfl rfl rfl ?_
  refine zz_E.n 5 rfl rfl rfl ?_
  refine zz_E.n 6 rfl rfl rfl ?_
  refine zz_E.n 7 rfl rfl rfl ?_
  refine zz_E.n 10 rfl rfl rfl ?_
  refine zz_E.n 11 rfl rfl rfl ?_
  refine zz_E.n 12 rfl rfl rfl ?_
  refine zz_E.kf 15 rfl (by rfl) (by decide) rfl ?_
  refine zz_E.n 16 rfl rfl rfl ?_
  refine zz_E.n 20 rfl rfl rfl ?_
  refine zz_E.n 21 rfl rfl rfl ?_
  refine zz_E.n 22 rfl rfl rfl ?_
  refine zz_E.n 24 rfl rfl rfl ?_
  refine zz_E.n 26 rfl rfl rfl ?_
  refine zz_E.n 27 rfl rfl rfl ?_
  refine zz_E.n 30 rfl rfl rfl ?_
  refine zz_E.n 31 rfl rfl rfl ?_
  refine zz_E.n 32 rfl rfl rfl ?_
  refine zz_E.kt 72 rfl (by rfl) (by decide) rfl ?_
  refine zz_E.n 73 rfl rfl rfl ?_
  refine zz_E.ret rfl rfl rfl ?_
  refine zz_E.jf 26 rfl (by rfl) (by decide) rfl ?_
  refine zz_E.n 27 rfl rfl rfl ?_
  refine zz_E.n 31 rfl rfl rfl ?_
  refine zz_E.ret rfl rfl rfl ?_
  refine zz_E.n 594 rfl rfl rfl ?_
  refine zz_E.n 595 rfl rfl rfl ?_
  refine zz_E.n 596 rfl rfl rfl ?_
  refine zz_E.n 597 rfl rfl rfl ?_
  refine zz_E.n 598 rfl rfl rfl ?_
  refine zz_E.n 599 rfl rfl rfl ?_
  refine zz_E.n 600 rfl rfl rfl ?_
  refine zz_E.n 601 rfl rfl rfl ?_
  refine zz_E.n 602 rfl rfl rfl ?_
  refine zz_E.n 603 rfl rfl rfl ?_
  refine zz_E.n 604 rfl rfl rfl ?_
  refine zz_E.cl (M' := zm_82) 607 rfl rfl (by decide) rfl rfl ⟨rfl, Nat.le_of_ble_eq_true rfl⟩ rfl ?_
  refine zz_E.n 1 rfl rfl rfl ?_
  refine zz_E.cl (M' := zm_73) 4 rfl rfl (by decide) rfl rfl ⟨rfl, Nat.le_of_ble_eq_true rfl⟩ rfl ?_
  refine zz_E.n 1 rfl rfl rfl ?_
  refine zz_E.jf 4 rfl (by rfl) (by decide) rfl ?_
  refine zz_E.n 5 rfl rfl rfl ?_
  refine zz_E.n 7 rfl rfl rfl ?_
  refine zz_E.kf 10 rfl (by rfl) (by decide) rfl ?_
  refine zz_E.n 11 rfl rfl rfl ?_
  refine zz_E.n 15 rfl rfl rfl ?_
  refine zz_E.ret rfl rfl rfl ?_
  refine zz_E.jf 7 rfl (by rfl) (by decide) rfl ?_
  refine zz_E.n 8 rfl rfl rfl ?_
  refine zz_E.cl (M' := zm_73) 11 rfl rfl (by decide) rfl rfl ⟨rfl, Nat.le_of_ble_eq_true rfl⟩ rfl ?_
  refine zz_E.n 1 rfl rfl rfl ?_
  refine zz_E.jf 4 rfl (by rfl) (by decide) rfl ?_
  refine zz_E.n 5 rfl rfl rfl ?_
  refine zz_E.n 7 rfl rfl rfl ?_
  refine zz_E.kf 10 rfl (by rfl) (by decide) rfl ?_
  refine zz_E.n 11 rfl rfl rfl ?_
  refine zz_E.n 15 rfl rfl rfl ?_
  refine zz_E.ret rfl rfl rfl ?_
  refine zz_E.jt 16 rfl (by rfl) (by decide) rfl ?_
  refine zz_E.n 19 rfl rfl rfl ?_
  refine zz_E.n 20 rfl rfl rfl ?_
  refine zz_E.n 21 rfl rfl rfl ?_
  refine zz_E.n 22 rfl rfl rfl ?_
  refine zz_E.n 25 rfl rfl rfl ?_
  refine zz_E.n 26 rfl rfl rfl ?_
  refine zz_E.n 27 rfl rfl rfl ?_
  refine zz_E.n 29 rfl rfl rfl ?_
  refine zz_E.n 30 rfl rfl rfl ?_
  refine zz_E.n 33 rfl rfl rfl ?_
  refine zz_E.n 34 rfl rfl rfl ?_
  refine zz_E.n 35 rfl rfl rfl ?_
  refine zz_E.jt 48 rfl (by rfl) (by decide) rfl ?_
  refine zz_E.n 49 rfl rfl rfl ?_
  refine zz_E.n 52 rfl rfl rfl ?_
  refine zz_E.n 53 rfl rfl rfl ?_
  refine zz_E.n 54 rfl rfl rfl ?_
  refine zz_E.n 55 rfl rfl rfl ?_
  refine zz_E.n 58 rfl rfl rfl ?_
  refine zz_E.n 60 rfl rfl rfl ?_
  refine zz_E.n 61 rfl rfl rfl ?_
  refine zz_E.kf 64 rfl (by rfl) (by decide) rfl ?_
  refine zz_E.n 65 rfl rfl rfl ?_
  refine zz_E.n 68 rfl rfl rfl ?_
  refine zz_E.n 69 rfl rfl rfl ?_
  refine zz_E.n 70 rfl rfl rfl ?_
  refine zz_E.jt 93 rfl (by rfl) (by decide) rfl ?_
  refine zz_E.n 94 rfl rfl rfl ?_
  refine zz_E.n 98 rfl rfl rfl ?_
  refine zz_E.ret rfl rfl rfl ?_
  refine zz_E.kt 652 rfl (by rfl) (by decide) rfl ?_
  refine zz_E.n 655 rfl rfl rfl ?_
  refine zz_E.n 18 rfl rfl rfl ?_
  refine zz_E.n 19 rfl rfl rfl ?_
  refine zz_E.n 20 rfl rfl rfl ?_
  refine zz_E.n 21 rfl rfl rfl ?_
  refine zz_E.n 23 rfl rfl rfl ?_
  refine zz_E.n 24 rfl rfl rfl ?_
  refine zz_E.kt 658 rfl (by rfl) (by decide) rfl ?_
  refine zz_E.n 659 rfl rfl rfl ?_
  refine zz_E.ret rfl rfl rfl ?_
  exact ⟨rfl, by decide +kernel, by decide +kernel⟩
set_option maxRecDepth 100000 in
set_option maxHeartbeats 8000000 in
theorem zv_k15_0_2 (xs : Nat → Int32) : zz_E zp_P zt_tf zt_fd (zt_X 6 (fun q => if q = 1 then nI 0 else if q = 2 then nI 2 else xs q)) 1000 zm_law 33 zv_L [.int (nI 15)] zv_h zv_Q := by
  refine zz_E.n 579 rfl rfl rfl ?_
  refine zz_E.n 580 rfl rfl rfl ?_
  refine zz_E.n 581 rfl rfl rfl ?_
  refine zz_E.n 582 rfl rfl rfl ?_
  refine zz_E.n 583 rfl rfl rfl ?_
  refine zz_E.n 584 rfl rfl rfl ?_
  refine zz_E.n 585 rfl rfl rfl ?_
  refine zz_E.n 586 rfl rfl rfl ?_
  refine zz_E.n 587 rfl rfl rfl ?_
  refine zz_E.n 588 rfl rfl rfl ?_
  refine zz_E.n 589 rfl rfl rfl ?_
  refine zz_E.n 590 rfl rfl rfl ?_
  refine zz_E.cl (M' := zm_17) 593 rfl rfl (by decide) rfl rfl ⟨rfl, Nat.le_of_ble_eq_true rfl⟩ rfl ?_
  refine zz_E.n 1 rfl rfl rfl ?_
  refine zz_E.cl (M' := zm_21) 4 rfl rfl (by decide) rfl rfl ⟨rfl, Nat.le_of_ble_eq_true rfl⟩ rfl ?_
  refine zz_E.n 1 rfl rfl rfl ?_
  refine zz_E.jf 4 rfl (by rfl) (by decide) rfl ?_
  refine zz_E.n 5 rfl rfl rfl ?_
  refine zz_E.n 7 rfl rfl rfl ?_
  refine zz_E.kf 10 rfl (by rfl) (by decide) rfl ?_
  refine zz_E.n 11 rfl rfl rfl ?_
  refine zz_E.n 15 rfl rfl rfl ?_
  refine zz_E.ret rfl rfl rfl ?_
  refine zz_E.jf 7 rfl (by rfl) (by decide) rfl ?_
  refine zz_E.n 8 rfl rfl rfl ?_
  refine zz_E.cl (M' := zm_21) 11 rfl rfl (by decide) rfl rfl ⟨rfl, Nat.le_of_ble_eq_true rfl⟩ rfl ?_
  refine zz_E.n 1 rfl rfl rfl ?_
  refine zz_E.jf 4 rfl (by rfl) (by decide) rfl ?_
  refine zz_E.n 5 rfl rfl rfl ?_
  refine zz_E.n 7 rfl rfl rfl ?_
  refine zz_E.kf 10 rfl (by rfl) (by decide) rfl ?_
  refine zz_E.n 11 rfl rfl rfl ?_
  refine zz_E.n 15 rfl rfl rfl ?_
  refine zz_E.ret rfl rfl rfl ?_
  refine zz_E.jf 14 rfl (by rfl) (by decide) rfl ?_
  refine zz_E.n 15 rfl rfl rfl ?_
  refine zz_E.n 18 rfl rfl rfl ?_
  refine zz_E.n 19 rfl rfl rfl ?_
  refine zz_E.n 20 rfl rfl rfl ?_
  refine zz_E.cl (M' := zm_27) 23 rfl rfl (by decide) rfl rfl ⟨rfl, Nat.le_of_ble_eq_true rfl⟩ rfl ?_
  refine zz_E.n 1 rfl rfl rfl ?_
  refine zz_E.n 4 rfl rfl rfl ?_
  refine zz_E.n 5 rfl rfl rfl ?_
  refine zz_E.n 6 rfl rfl rfl ?_
  refine zz_E.n 7 rfl rfl rfl ?_
  refine zz_E.n 10 rfl rfl rfl ?_
  refine zz_E.n 11 rfl rfl rfl ?_
  refine zz_E.n 12 rfl rfl rfl ?_
  refine zz_E.kf 15 rfl (by rfl) (by decide) rfl ?_
  refine zz_E.n 16 rfl rfl rfl ?_
  refine zz_E.n 20 rfl rfl rfl ?_
  refine zz_E.n 21 rfl rfl rfl ?_
  refine zz_E.n 22 rfl rfl rfl ?_
  refine zz_E.n 24 rfl rfl rfl ?_
  refine zz_E.n 26 rfl rfl rfl ?_
  refine zz_E.n 27 rfl rfl rfl ?_
  refine zz_E.n 30 rfl rfl rfl ?_
  refine zz_E.n 31 rfl rfl rfl ?_
  refine zz_E.n 32 rfl rfl rfl ?_
  refine zz_E.kt 72 rfl (by rfl) (by decide) rfl ?_
  refine zz_E.n 73 rfl rfl rfl ?_
  refine zz_E.ret rfl rfl rfl ?_
  refine zz_E.jf 26 rfl (by rfl) (by decide) rfl ?_
  refine zz_E.n 27 rfl rfl rfl ?_
  refine zz_E.n 31 rfl rfl rfl ?_
  refine zz_E.ret rfl rfl rfl ?_
  refine zz_E.n 594 rfl rfl rfl ?_
  refine zz_E.n 595 rfl rfl rfl ?_
  refine zz_E.n 596 rfl rfl rfl ?_
  refine zz_E.n 597 rfl rfl rfl ?_
  refine zz_E.n 598 rfl rfl rfl ?_
  refine zz_E.n 599 rfl rfl rfl ?_
  refine zz_E.n 600 rfl rfl rfl ?_
  refine zz_E.n 601 rfl rfl rfl ?_
  refine zz_E.n 602 rfl rfl rfl ?_
  refine zz_E.n 603 rfl rfl rfl ?_
  refine zz_E.n 604 rfl rfl rfl ?_
  refine zz_E.cl (M' := zm_82) 607 rfl rfl (by decide) rfl rfl ⟨rfl, Nat.le_of_ble_eq_true rfl⟩ rfl ?_
  refine zz_E.n 1 rfl rfl rfl ?_
  refine zz_E.cl (M' := zm_73) 4 rfl rfl (by decide) rfl rfl ⟨rfl, Nat.le_of_ble_eq_true rfl⟩ rfl ?_
  refine zz_E.n 1 rfl rfl rfl ?_
  refine zz_E.jf 4 rfl (by rfl) (by decide) rfl ?_
  refine zz_E.n 5 rfl rfl rfl ?_
  refine zz_E.n 7 rfl rfl rfl ?_
  refine zz_E.kf 10 rfl (by rfl) (by decide) rfl ?_
  refine zz_E.n 11 rfl rfl rfl ?_
  refine zz_E.n 15 rfl rfl rfl ?_
  refine zz_E.ret rfl rfl rfl ?_
  refine zz_E.jf 7 rfl (by rfl) (by decide) rfl ?_
  refine zz_E.n 8 rfl rfl rfl ?_
  refine zz_E.cl (M' := zm_73) 11 rfl rfl (by decide) rfl rfl ⟨rfl, Nat.le_of_ble_eq_true rfl⟩ rfl ?_
  refine zz_E.n 1 rfl rfl rfl ?_
  refine zz_E.jf 4 rfl (by rfl) (by decide) rfl ?_
  refine zz_E.n 5 rfl rfl rfl ?_
  refine zz_E.n 7 rfl rfl rfl ?_
  refine zz_E.kf 10 rfl (by rfl) (by decide) rfl ?_
  refine zz_E.n 11 rfl rfl rfl ?_
  refine zz_E.n 15 rfl rfl rfl ?_
  refine zz_E.ret rfl rfl rfl ?_
  refine zz_E.jt 16 rfl (by rfl) (by decide) rfl ?_
  refine zz_E.n 19 rfl rfl rfl ?_
  refine zz_E.n 20 rfl rfl rfl ?_
  refine zz_E.n 21 rfl rfl rfl ?_
  refine zz_E.n 22 rfl rfl rfl ?_
  refine zz_E.n 25 rfl rfl rfl ?_
  refine zz_E.n 26 rfl rfl rfl ?_
  refine zz_E.n 27 rfl rfl rfl ?_
  refine zz_E.n 29 rfl rfl rfl ?_
  refine zz_E.n 30 rfl rfl rfl ?_
  refine zz_E.n 33 rfl rfl rfl ?_
  refine zz_E.n 34 rfl rfl rfl ?_
  refine zz_E.n 35 rfl rfl rfl ?_
  refine zz_E.jt 48 rfl (by rfl) (by decide) rfl ?_
  refine zz_E.n 49 rfl rfl rfl ?_
  refine zz_E.n 52 rfl rfl rfl ?_
  refine zz_E.n 53 rfl rfl rfl ?_
  refine zz_E.n 54 rfl rfl rfl ?_
  refine zz_E.n 55 rfl rfl rfl ?_
  refine zz_E.n 58 rfl rfl rfl ?_
  refine zz_E.n 60 rfl rfl rfl ?_
  refine zz_E.n 61 rfl rfl rfl ?_
  refine zz_E.kf 64 rfl (by rfl) (by decide) rfl ?_
  refine zz_E.n 65 rfl rfl rfl ?_
  refine zz_E.n 68 rfl rfl rfl ?_
  refine zz_E.n 69 rfl rfl rfl ?_
  refine zz_E.n 70 rfl rfl rfl ?_
  refine zz_E.jt 93 rfl (by rfl) (by decide) rfl ?_
  refine zz_E.n 94 rfl rfl rfl ?_
  refine zz_E.n 98 rfl rfl rfl ?_
  refine zz_E.ret rfl rfl rfl ?_
  refine zz_E.kt 652 rfl (by rfl) (by decide) rfl ?_
  refine zz_E.n 655 rfl rfl rfl ?_
  refine zz_E.n 18 rfl rfl rfl ?_
  refine zz_E.n 19 rfl rfl rfl ?_
  refine zz_E.n 20 rfl rfl rfl ?_
  refine zz_E.n 21 rfl rfl rfl ?_
  refine zz_E.n 23 rfl rfl rfl ?_
  refine zz_E.n 24 rfl rfl rfl ?_
  refine zz_E.kt 658 rfl (by rfl) (by decide) rfl ?_
  refine zz_E.n 659 rfl rfl rfl ?_
  refine zz_E.ret rfl rfl rfl ?_
  exact ⟨rfl, by decide +kernel, by decide +kernel⟩
set_option maxRecDepth 100000 in
set_option maxHeartbeats 8000000 in
theorem zv_k15_0_3 (xs : Nat → Int32) : zz_E zp_P zt_tf zt_fd (zt_X 6 (fun q => if q = 1 then nI 0 else if q = 2 then nI 3 else xs q)) 1000 zm_law 33 zv_L [.int (nI 15)] zv_h zv_Q := by
  refine zz_E.n 579 rfl rfl rfl ?_
  refine zz_E.n 580 rfl rfl rfl ?_
  refine zz_E.n 581 rfl rfl rfl ?_
  refine zz_E.n 582 rfl rfl rfl ?_
  refine zz_E.n 583 rfl rfl rfl ?_
  refine zz_E.n 584 rfl rfl rfl ?_
  refine zz_E.n 585 rfl rfl rfl ?_
  refine zz_E.n 586 rfl rfl rfl ?_
  refine zz_E.n 587 rfl rfl rfl ?_
  refine zz_E.n 588 rfl rfl rfl ?_
  refine zz_E.n 589 rfl rfl rfl ?_
  refine zz_E.n 590 rfl rfl rfl ?_
  refine zz_E.cl (M' := zm_17) 593 rfl rfl (by decide) rfl rfl ⟨rfl, Nat.le_of_ble_eq_true rfl⟩ rfl ?_
  refine zz_E.n 1 rfl rfl rfl ?_
  refine zz_E.cl (M' := zm_21) 4 rfl rfl (by decide) rfl rfl ⟨rfl, Nat.le_of_ble_eq_true rfl⟩ rfl ?_
  refine zz_E.n 1 rfl rfl rfl ?_
  refine zz_E.jf 4 rfl (by rfl) (by decide) rfl ?_
  refine zz_E.n 5 rfl rfl rfl ?_
  refine zz_E.n 7 rfl rfl rfl ?_
  refine zz_E.kf 10 rfl (by rfl) (by decide) rfl ?_
  refine zz_E.n 11 rfl rfl rfl ?_
  refine zz_E.n 15 rfl rfl rfl ?_
  refine zz_E.ret rfl rfl rfl ?_
  refine zz_E.jf 7 rfl (by rfl) (by decide) rfl ?_
  refine zz_E.n 8 rfl rfl rfl ?_
  refine zz_E.cl (M' := zm_21) 11 rfl rfl (by decide) rfl rfl ⟨rfl, Nat.le_of_ble_eq_true rfl⟩ rfl ?_
  refine zz_E.n 1 rfl rfl rfl ?_
  refine zz_E.jf 4 rfl (by rfl) (by decide) rfl ?_
  refine zz_E.n 5 rfl rfl rfl ?_
  refine zz_E.n 7 rfl rfl rfl ?_
  refine zz_E.kf 10 rfl (by rfl) (by decide) rfl ?_
  refine zz_E.n 11 rfl rfl rfl ?_
  refine zz_E.n 15 rfl rfl rfl ?_
  refine zz_E.ret rfl rfl rfl ?_
  refine zz_E.jf 14 rfl (by rfl) (by decide) rfl ?_
  refine zz_E.n 15 rfl rfl rfl ?_
  refine zz_E.n 18 rfl rfl rfl ?_
  refine zz_E.n 19 rfl rfl rfl ?_
  refine zz_E.n 20 rfl rfl rfl ?_
  refine zz_E.cl (M' := zm_27) 23 rfl rfl (by decide) rfl rfl ⟨rfl, Nat.le_of_ble_eq_true rfl⟩ rfl ?_
  refine zz_E.n 1 rfl rfl rfl ?_
  refine zz_E.n 4 rfl rfl rfl ?_
  refine zz_E.n 5 rfl rfl rfl ?_
  refine zz_E.n 6 rfl rfl rfl ?_
  refine zz_E.n 7 rfl rfl rfl ?_
  refine zz_E.n 10 rfl rfl rfl ?_
  refine zz_E.n 11 rfl rfl rfl ?_
  refine zz_E.n 12 rfl rfl rfl ?_
  refine zz_E.kf 15 rfl (by rfl) (by decide) rfl ?_
  refine zz_E.n 16 rfl rfl rfl ?_
  refine zz_E.n 20 rfl rfl rfl ?_
  refine zz_E.n 21 rfl rfl rfl ?_
  refine zz_E.n 22 rfl rfl rfl ?_
  refine zz_E.n 24 rfl rfl rfl ?_
  refine zz_E.n 26 rfl rfl rfl ?_
  refine zz_E.n 27 rfl rfl rfl ?_
  refine zz_E.n 30 rfl rfl rfl ?_
  refine zz_E.n 31 rfl rfl rfl ?_
  refine zz_E.n 32 rfl rfl rfl ?_
  refine zz_E.kt 72 rfl (by rfl) (by decide) rfl ?_
  refine zz_E.n 73 rfl rfl rfl ?_
  refine zz_E.ret rfl rfl rfl ?_
  refine zz_E.jf 26 rfl (by rfl) (by decide) rfl ?_
  refine zz_E.n 27 rfl rfl rfl ?_
  refine zz_E.n 31 rfl rfl rfl ?_
  refine zz_E.ret rfl rfl rfl ?_
  refine zz_E.n 594 rfl rfl rfl ?_
  refine zz_E.n 595 rfl rfl rfl ?_
  refine zz_E.n 596 rfl rfl rfl ?_
  refine zz_E.n 597 rfl rfl rfl ?_
  refine zz_E.n 598 rfl rfl rfl ?_
  refine zz_E.n 599 rfl rfl rfl ?_
  refine zz_E.n 600 rfl rfl rfl ?_
  refine zz_E.n 601 rfl rfl rfl ?_
  refine zz_E.n 602 rfl rfl rfl ?_
  refine zz_E.n 603 rfl rfl rfl ?_
  refine zz_E.n 604 rfl rfl rfl ?_
  refine zz_E.cl (M' := zm_82) 607 rfl rfl (by decide) rfl rfl ⟨rfl, Nat.le_of_ble_eq_true rfl⟩ rfl ?_
  refine zz_E.n 1 rfl rfl rfl ?_
  refine zz_E.cl (M' := zm_73) 4 rfl rfl (by decide) rfl rfl ⟨rfl, Nat.le_of_ble_eq_true rfl⟩ rfl ?_
  refine zz_E.n 1 rfl rfl rfl ?_
  refine zz_E.jf 4 rfl (by rfl) (by decide) rfl ?_
  refine zz_E.n 5 rfl rfl rfl ?_
  refine zz_E.n 7 rfl rfl rfl ?_
  refine zz_E.kf 10 rfl (by rfl) (by decide) rfl ?_
  refine zz_E.n 11 rfl rfl rfl ?_
  refine zz_E.n 15 rfl rfl rfl ?_
  refine zz_E.ret rfl rfl rfl ?_
  refine zz_E.jf 7 rfl (by rfl) (by decide) rfl ?_
  refine zz_E.n 8 rfl rfl rfl ?_
  refine zz_E.cl (M' := zm_73) 11 rfl rfl (by decide) rfl rfl ⟨rfl, Nat.le_of_ble_eq_true rfl⟩ rfl ?_
  refine zz_E.n 1 rfl rfl rfl ?_
  refine zz_E.jf 4 rfl (by rfl) (by decide) rfl ?_
  refine zz_E.n 5 rfl rfl rfl ?_
  refine zz_E.n 7 rfl rfl rfl ?_
  refine zz_E.kf 10 rfl (by rfl) (by decide) rfl ?_
  refine zz_E.n 11 rfl rfl rfl ?_
  refine zz_E.n 15 rfl rfl rfl ?_
  refine zz_E.ret rfl rfl rfl ?_
  refine zz_E.jt 16 rfl (by rfl) (by decide) rfl ?_
  refine zz_E.n 19 rfl rfl rfl ?_
  refine zz_E.n 20 rfl rfl rfl ?_
  refine zz_E.n 21 rfl rfl rfl ?_
  refine zz_E.n 22 rfl rfl rfl ?_
  refine zz_E.n 25 rfl rfl rfl ?_
  refine zz_E.n 26 rfl rfl rfl ?_
  refine zz_E.n 27 rfl rfl rfl ?_
  refine zz_E.n 29 rfl rfl rfl ?_
  refine zz_E.n 30 rfl rfl rfl ?_
  refine zz_E.n 33 rfl rfl rfl ?_
  refine zz_E.n 34 rfl rfl rfl ?_
  refine zz_E.n 35 rfl rfl rfl ?_
  refine zz_E.jt 48 rfl (by rfl) (by decide) rfl ?_
  refine zz_E.n 49 rfl rfl rfl ?_
  refine zz_E.n 52 rfl rfl rfl ?_
  refine zz_E.n 53 rfl rfl rfl ?_
  refine zz_E.n 54 rfl rfl rfl ?_
  refine zz_E.n 55 rfl rfl rfl ?_
  refine zz_E.n 58 rfl rfl rfl ?_
  refine zz_E.n 60 rfl rfl rfl ?_
  refine zz_E.n 61 rfl rfl rfl ?_
  refine zz_E.kf 64 rfl (by rfl) (by decide) rfl ?_
  refine zz_E.n 65 rfl rfl rfl ?_
  refine zz_E.n 68 rfl rfl rfl ?_
  refine zz_E.n 69 rfl rfl rfl ?_
  refine zz_E.n 70 rfl rfl rfl ?_
  refine zz_E.jt 93 rfl (by rfl) (by decide) rfl ?_
  refine zz_E.n 94 rfl rfl rfl ?_
  refine zz_E.n 98 rfl rfl rfl ?_
  refine zz_E.ret rfl rfl rfl ?_
  refine zz_E.kt 652 rfl (by rfl) (by decide) rfl ?_
  refine zz_E.n 655 rfl rfl rfl ?_
  refine zz_E.n 18 rfl rfl rfl ?_
  refine zz_E.n 19 rfl rfl rfl ?_
  refine zz_E.n 20 rfl rfl rfl ?_
  refine zz_E.n 21 rfl rfl rfl ?_
  refine zz_E.n 23 rfl rfl rfl ?_
  refine zz_E.n 24 rfl rfl rfl ?_
  refine zz_E.kt 658 rfl (by rfl) (by decide) rfl ?_
  refine zz_E.n 659 rfl rfl rfl ?_
  refine zz_E.ret rfl rfl rfl ?_
  exact ⟨rfl, by decide +kernel, by decide +kernel⟩
set_option maxRecDepth 100000 in
set_option maxHeartbeats 8000000 in
theorem zv_k15_0_4 (xs : Nat → Int32) : zz_E zp_P zt_tf zt_fd (zt_X 6 (fun q => if q = 1 then nI 0 else if q = 2 then nI 4 else xs q)) 1000 zm_law 33 zv_L [.int (nI 15)] zv_h zv_Q := by
  refine zz_E.n 579 rfl rfl rfl ?_
  refine zz_E.n 580 rfl rfl rfl ?_
  refine zz_E.n 581 rfl rfl rfl ?_
  refine zz_E.n 582 rfl rfl rfl ?_
  refine zz_E.n 583 rfl rfl rfl ?_
  refine zz_E.n 584 rfl rfl rfl ?_
  refine zz_E.n 585 rfl rfl rfl ?_
  refine zz_E.n 586 rfl rfl rfl ?_
  refine zz_E.n 587 rfl rfl rfl ?_
  refine zz_E.n 588 rfl rfl rfl ?_
  refine zz_E.n 589 rfl rfl rfl ?_
  refine zz_E.n 590 rfl rfl rfl ?_
  refine zz_E.cl (M' := zm_17) 593 rfl rfl (by decide) rfl rfl ⟨rfl, Nat.le_of_ble_eq_true rfl⟩ rfl ?_
  refine zz_E.n 1 rfl rfl rfl ?_
  refine zz_E.cl (M' := zm_21) 4 rfl rfl (by decide) rfl rfl ⟨rfl, Nat.le_of_ble_eq_true rfl⟩ rfl ?_
  refine zz_E.n 1 rfl rfl rfl ?_
  refine zz_E.jf 4 rfl (by rfl) (by decide) rfl ?_
  refine zz_E.n 5 rfl rfl rfl ?_
  refine zz_E.n 7 rfl rfl rfl ?_
  refine zz_E.kf 10 rfl (by rfl) (by decide) rfl ?_
  refine zz_E.n 11 rfl rfl rfl ?_
  refine zz_E.n 15 rfl rfl rfl ?_
  refine zz_E.ret rfl rfl rfl ?_
  refine zz_E.jf 7 rfl (by rfl) (by decide) rfl ?_
  refine zz_E.n 8 rfl rfl rfl ?_
  refine zz_E.cl (M' := zm_21) 11 rfl rfl (by decide) rfl rfl ⟨rfl, Nat.le_of_ble_eq_true rfl⟩ rfl ?_
  refine zz_E.n 1 rfl rfl rfl ?_
  refine zz_E.jf 4 rfl (by rfl) (by decide) rfl ?_
  refine zz_E.n 5 rfl rfl rfl ?_
  refine zz_E.n 7 rfl rfl rfl ?_
  refine zz_E.kf 10 rfl (by rfl) (by decide) rfl ?_
  refine zz_E.n 11 rfl rfl rfl ?_
  refine zz_E.n 15 rfl rfl rfl ?_
  refine zz_E.ret rfl rfl rfl ?_
  refine zz_E.jf 14 rfl (by rfl) (by decide) rfl ?_
  refine zz_E.n 15 rfl rfl rfl ?_
  refine zz_E.n 18 rfl rfl rfl ?_
  refine zz_E.n 19 rfl rfl rfl ?_
  refine zz_E.n 20 rfl rfl rfl ?_
  refine zz_E.cl (M' := zm_27) 23 rfl rfl (by decide) rfl rfl ⟨rfl, Nat.le_of_ble_eq_true rfl⟩ rfl ?_
  refine zz_E.n 1 rfl rfl rfl ?_
  refine zz_E.n 4 rfl rfl rfl ?_
  refine zz_E.n 5 rfl rfl rfl ?_
  refine zz_E.n 6 rfl rfl rfl ?_
  refine zz_E.n 7 rfl rfl rfl ?_
  refine zz_E.n 10 rfl rfl rfl ?_
  refine zz_E.n 11 rfl rfl rfl ?_
  refine zz_E.n 12 rfl rfl rfl ?_
  refine zz_E.kf 15 rfl (by rfl) (by decide) rfl ?_
  refine zz_E.n 16 rfl rfl rfl ?_
  refine zz_E.n 20 rfl rfl rfl ?_
  refine zz_E.n 21 rfl rfl rfl ?_
  refine zz_E.n 22 rfl rfl rfl ?_
  refine zz_E.n 24 rfl rfl rfl ?_
  refine zz_E.n 26 rfl rfl rfl ?_
  refine zz_E.n 27 rfl rfl rfl ?_
  refine zz_E.n 30 rfl rfl rfl ?_
  refine zz_E.n 31 rfl rfl rfl ?_
  refine zz_E.n 32 rfl rfl rfl ?_
  refine zz_E.kt 72 rfl (by rfl) (by decide) rfl ?_
  refine zz_E.n 73 rfl rfl rfl ?_
  refine zz_E.ret rfl rfl rfl ?_
  refine zz_E.jf 26 rfl (by rfl) (by decide) rfl ?_
  refine zz_E.n 27 rfl rfl rfl ?_
  refine zz_E.n 31 rfl rfl rfl ?_
  refine zz_E.ret rfl rfl rfl ?_
  refine zz_E.n 594 rfl rfl rfl ?_
  refine zz_E.n 595 rfl rfl rfl ?_
  refine zz_E.n 596 rfl rfl rfl ?_
  refine zz_E.n 597 rfl rfl rfl ?_
  refine zz_E.n 598 rfl rfl rfl ?_
  refine zz_E.n 599 rfl rfl rfl ?_
  refine zz_E.n 600 rfl rfl rfl ?_
  refine zz_E.n 601 rfl rfl rfl ?_
  refine zz_E.n 602 rfl rfl rfl ?_
  refine zz_E.n 603 rfl rfl rfl ?_
  refine zz_E.n 604 rfl rfl rfl ?_
  refine zz_E.cl (M' := zm_82) 607 rfl rfl (by decide) rfl rfl ⟨rfl, Nat.le_of_ble_eq_true rfl⟩ rfl ?_
  refine zz_E.n 1 rfl rfl rfl ?_
  refine zz_E.cl (M' := zm_73) 4 rfl rfl (by decide) rfl rfl ⟨rfl, Nat.le_of_ble_eq_true rfl⟩ rfl ?_
  refine zz_E.n 1 rfl rfl rfl ?_
  refine zz_E.jf 4 rfl (by rfl) (by decide) rfl ?_
  refine zz_E.n 5 rfl rfl rfl ?_
  refine zz_E.n 7 rfl rfl rfl ?_
  refine zz_E.kf 10 rfl (by rfl) (by decide) rfl ?_
  refine zz_E.n 11 rfl rfl rfl ?_
  refine zz_E.n 15 rfl rfl rfl ?_
  refine zz_E.ret rfl rfl rfl ?_
  refine zz_E.jf 7 rfl (by rfl) (by decide) rfl ?_
  refine zz_E.n 8 rfl rfl rfl ?_
  refine zz_E.cl (M' := zm_73) 11 rfl rfl (by decide) rfl rfl ⟨rfl, Nat.le_of_ble_eq_true rfl⟩ rfl ?_
  refine zz_E.n 1 rfl rfl rfl ?_
  refine zz_E.jf 4 rfl (by rfl) (by decide) rfl ?_
  refine zz_E.n 5 rfl rfl rfl ?_
  refine zz_E.n 7 rfl rfl rfl ?_
  refine zz_E.kf 10 rfl (by rfl) (by decide) rfl ?_
  refine zz_E.n 11 rfl rfl rfl ?_
  refine zz_E.n 15 rfl rfl rfl ?_
  refine zz_E.ret rfl rfl rfl ?_
  refine zz_E.jt 16 rfl (by rfl) (by decide) rfl ?_
  refine zz_E.n 19 rfl rfl rfl ?_
  refine zz_E.n 20 rfl rfl rfl ?_
  refine zz_E.n 21 rfl rfl rfl ?_
  refine zz_E.n 22 rfl rfl rfl ?_
  refine zz_E.n 25 rfl rfl rfl ?_
  refine zz_E.n 26 rfl rfl rfl ?_
  refine zz_E.n 27 rfl rfl rfl ?_
  refine zz_E.n 29 rfl rfl rfl ?_
  refine zz_E.n 30 rfl rfl rfl ?_
  refine zz_E.n 33 rfl rfl rfl ?_
  refine zz_E.n 34 rfl rfl rfl ?_
  refine zz_E.n 35 rfl rfl rfl ?_
  refine zz_E.jt 48 rfl (by rfl) (by decide) rfl ?_
  refine zz_E.n 49 rfl rfl rfl ?_
  refine zz_E.n 52 rfl rfl rfl ?_
  refine zz_E.n 53 rfl rfl rfl ?_
  refine zz_E.n 54 rfl rfl rfl ?_
  refine zz_E.n 55 rfl rfl rfl ?_
  refine zz_E.n 58 rfl rfl rfl ?_
  refine zz_E.n 60 rfl rfl rfl ?_
  refine zz_E.n 61 rfl rfl rfl ?_
  refine zz_E.kf 64 rfl (by rfl) (by decide) rfl ?_
  refine zz_E.n 65 rfl rfl rfl ?_
  refine zz_E.n 68 rfl rfl rfl ?_
  refine zz_E.n 69 rfl rfl rfl ?_
  refine zz_E.n 70 rfl rfl rfl ?_
  refine zz_E.jt 93 rfl (by rfl) (by decide) rfl ?_
  refine zz_E.n 94 rfl rfl rfl ?_
  refine zz_E.n 98 rfl rfl rfl ?_
  refine zz_E.ret rfl rfl rfl ?_
  refine zz_E.kt 652 rfl (by rfl) (by decide) rfl ?_
  refine zz_E.n 655 rfl rfl rfl ?_
  refine zz_E.n 18 rfl rfl rfl ?_
  refine zz_E.n 19 rfl rfl rfl ?_
  refine zz_E.n 20 rfl rfl rfl ?_
  refine zz_E.n 21 rfl rfl rfl ?_
  refine zz_E.n 23 rfl rfl rfl ?_
  refine zz_E.n 24 rfl rfl rfl ?_
  refine zz_E.kt 658 rfl (by rfl) (by decide) rfl ?_
  refine zz_E.n 659 rfl rfl rfl ?_
  refine zz_E.ret rfl rfl rfl ?_
  exact ⟨rfl, by decide +kernel, by decide +kernel⟩
set_option maxRecDepth 100000 in
set_option maxHeartbeats 8000000 in
theorem zv_k15_0_5 (xs : Nat → Int32) : zz_E zp_P zt_tf zt_fd (zt_X 6 (fun q => if q = 1 then nI 0 else if q = 2 then nI 5 else xs q)) 1000 zm_law 33 zv_L [.int (nI 15)] zv_h zv_Q := by
  refine zz_E.n 579 rfl rfl rfl ?_
  refine zz_E.n 580 rfl rfl rfl ?_
  refine zz_E.n 581 rfl rfl rfl ?_
  refine zz_E.n 582 rfl rfl rfl ?_
  refine zz_E.n 583 rfl rfl rfl ?_
  refine zz_E.n 584 rfl rfl rfl ?_
  refine zz_E.n 585 rfl rfl rfl ?_
  refine zz_E.n 586 rfl rfl rfl ?_
  refine zz_E.n 587 rfl rfl rfl ?_
  refine zz_E.n 588 rfl rfl rfl ?_
  refine zz_E.n 589 rfl rfl rfl ?_
  refine zz_E.n 590 rfl rfl rfl ?_
  refine zz_E.cl (M' := zm_17) 593 rfl rfl (by decide) rfl rfl ⟨rfl, Nat.le_of_ble_eq_true rfl⟩ rfl ?_
  refine zz_E.n 1 rfl rfl rfl ?_
  refine zz_E.cl (M' := zm_21) 4 rfl rfl (by decide) rfl rfl ⟨rfl, Nat.le_of_ble_eq_true rfl⟩ rfl ?_
  refine zz_E.n 1 rfl rfl rfl ?_
  refine zz_E.jf 4 rfl (by rfl) (by decide) rfl ?_
  refine zz_E.n 5 rfl rfl rfl ?_
  refine zz_E.n 7 rfl rfl rfl ?_
  refine zz_E.kf 10 rfl (by rfl) (by decide) rfl ?_
  refine zz_E.n 11 rfl rfl rfl ?_
  refine zz_E.n 15 rfl rfl rfl ?_
  refine zz_E.ret rfl rfl rfl ?_
  refine zz_E.jf 7 rfl (by rfl) (by decide) rfl ?_
  refine zz_E.n 8 rfl rfl rfl ?_
  refine zz_E.cl (M' := zm_21) 11 rfl rfl (by decide) rfl rfl ⟨rfl, Nat.le_of_ble_eq_true rfl⟩ rfl ?_
  refine zz_E.n 1 rfl rfl rfl ?_
  refine zz_E.jf 4 rfl (by rfl) (by decide) rfl ?_
  refine zz_E.n 5 rfl rfl rfl ?_
  refine zz_E.n 7 rfl rfl rfl ?_
  refine zz_E.kf 10 rfl (by rfl) (by decide) rfl ?_
  refine zz_E.n 11 rfl rfl rfl ?_
  refine zz_E.n 15 rfl rfl rfl ?_
  refine zz_E.ret rfl rfl rfl ?_
  refine zz_E.jf 14 rfl (by rfl) (by decide) rfl ?_
  refine zz_E.n 15 rfl rfl rfl ?_
  refine zz_E.n 18 rfl rfl rfl ?_
  refine zz_E.n 19 rfl rfl rfl ?_
  refine zz_E.n 20 rfl rfl rfl ?_
  refine zz_E.cl (M' := zm_27) 23 rfl rfl (by decide) rfl rfl ⟨rfl, Nat.le_of_ble_eq_true rfl⟩ rfl ?_
  refine zz_E.n 1 rfl rfl rfl ?_
  refine zz_E.n 4 rfl rfl rfl ?_
  refine zz_E.n 5 rfl rfl rfl ?_
  refine zz_E.n 6 rfl rfl rfl ?_
  refine zz_E.n 7 rfl rfl rfl ?_
  refine zz_E.n 10 rfl rfl rfl ?_
  refine zz_E.n 11 rfl rfl rfl ?_
  refine zz_E.n 12 rfl rfl rfl ?_
  refine zz_E.kf 15 rfl (by rfl) (by decide) rfl ?_
  refine zz_E.n 16 rfl rfl rfl ?_
  refine zz_E.n 20 rfl rfl rfl ?_
  refine zz_E.n 21 rfl rfl rfl ?_
  refine zz_E.n 22 rfl rfl rfl ?_
  refine zz_E.n 24 rfl rfl rfl ?_
  refine zz_E.n 26 rfl rfl rfl ?_
  refine zz_E.n 27 rfl rfl rfl ?_
  refine zz_E.n 30 rfl rfl rfl ?_
  refine zz_E.n 31 rfl rfl rfl ?_
  refine zz_E.n 32 rfl rfl rfl ?_
  refine zz_E.kt 72 rfl (by rfl) (by decide) rfl ?_
  refine zz_E.n 73 rfl rfl rfl ?_
  refine zz_E.ret rfl rfl rfl ?_
  refine zz_E.jf 26 rfl (by rfl) (by decide) rfl ?_
  refine zz_E.n 27 rfl rfl rfl ?_
  refine zz_E.n 31 rfl rfl rfl ?_
  refine zz_E.ret rfl rfl rfl ?_
  refine zz_E.n 594 rfl rfl rfl ?_
  refine zz_E.n 595 rfl rfl rfl ?_
  refine zz_E.n 596 rfl rfl rfl ?_
  refine zz_E.n 597 rfl rfl rfl ?_
  refine zz_E.n 598 rfl rfl rfl ?_
  refine zz_E.n 599 rfl rfl rfl ?_
  refine zz_E.n 600 rfl rfl rfl ?_
  refine zz_E.n 601 rfl rfl rfl ?_
  refine zz_E.n 602 rfl rfl rfl ?_
  refine zz_E.n 603 rfl rfl rfl ?_
  refine zz_E.n 604 rfl rfl rfl ?_
  refine zz_E.cl (M' := zm_82) 607 rfl rfl (by decide) rfl rfl ⟨rfl, Nat.le_of_ble_eq_true rfl⟩ rfl ?_
  refine zz_E.n 1 rfl rfl rfl ?_
  refine zz_E.cl (M' := zm_73) 4 rfl rfl (by decide) rfl rfl ⟨rfl, Nat.le_of_ble_eq_true rfl⟩ rfl ?_
  refine zz_E.n 1 rfl rfl rfl ?_
  refine zz_E.jf 4 rfl (by rfl) (by decide) rfl ?_
  refine zz_E.n 5 rfl rfl rfl ?_
  refine zz_E.n 7 rfl rfl rfl ?_
  refine zz_E.kf 10 rfl (by rfl) (by decide) rfl ?_
  refine zz_E.n 11 rfl rfl rfl ?_
  refine zz_E.n 15 rfl rfl rfl ?_
  refine zz_E.ret rfl rfl rfl ?_
  refine zz_E.jf 7 rfl (by rfl) (by decide) rfl ?_
  refine zz_E.n 8 rfl rfl rfl ?_
  refine zz_E.cl (M' := zm_73) 11 rfl rfl (by decide) rfl rfl ⟨rfl, Nat.le_of_ble_eq_true rfl⟩ rfl ?_
  refine zz_E.n 1 rfl rfl rfl ?_
  refine zz_E.jf 4 rfl (by rfl) (by decide) rfl ?_
  refine zz_E.n 5 rfl rfl rfl ?_
  refine zz_E.n 7 rfl rfl rfl ?_
  refine zz_E.kf 10 rfl (by rfl) (by decide) rfl ?_
  refine zz_E.n 11 rfl rfl rfl ?_
  refine zz_E.n 15 rfl rfl rfl ?_
  refine zz_E.ret rfl rfl rfl ?_
  refine zz_E.jt 16 rfl (by rfl) (by decide) rfl ?_
  refine zz_E.n 19 rfl rfl rfl ?_
  refine zz_E.n 20 rfl rfl rfl ?_
  refine zz_E.n 21 rfl rfl rfl ?_
  refine zz_E.n 22 rfl rfl rfl ?_
  refine zz_E.n 25 rfl rfl rfl ?_
  refine zz_E.n 26 rfl rfl rfl ?_
  refine zz_E.n 27 rfl rfl rfl ?_
  refine zz_E.n 29 rfl rfl rfl ?_
  refine zz_E.n 30 rfl rfl rfl ?_
  refine zz_E.n 33 rfl rfl rfl ?_
  refine zz_E.n 34 rfl rfl rfl ?_
  refine zz_E.n 35 rfl rfl rfl ?_
  refine zz_E.jt 48 rfl (by rfl) (by decide) rfl ?_
  refine zz_E.n 49 rfl rfl rfl ?_
  refine zz_E.n 52 rfl rfl rfl ?_
  refine zz_E.n 53 rfl rfl rfl ?_
  refine zz_E.n 54 rfl rfl rfl ?_
  refine zz_E.n 55 rfl rfl rfl ?_
  refine zz_E.n 58 rfl rfl rfl ?_
  refine zz_E.n 60 rfl rfl rfl ?_
  refine zz_E.n 61 rfl rfl rfl ?_
  refine zz_E.kf 64 rfl (by rfl) (by decide) rfl ?_
  refine zz_E.n 65 rfl rfl rfl ?_
  refine zz_E.n 68 rfl rfl rfl ?_
  refine zz_E.n 69 rfl rfl rfl ?_
  refine zz_E.n 70 rfl rfl rfl ?_
  refine zz_E.jt 93 rfl (by rfl) (by decide) rfl ?_
  refine zz_E.n 94 rfl rfl rfl ?_
  refine zz_E.n 98 rfl rfl rfl ?_
  refine zz_E.ret rfl rfl rfl ?_
  refine zz_E.kt 652 rfl (by rfl) (by decide) rfl ?_
  refine zz_E.n 655 rfl rfl rfl ?_
  refine zz_E.n 18 rfl rfl rfl ?_
  refine zz_E.n 19 rfl rfl rfl ?_
  refine zz_E.n 20 rfl rfl rfl ?_
  refine zz_E.n 21 rfl rfl rfl ?_
  refine zz_E.n 23 rfl rfl rfl ?_
  refine zz_E.n 24 rfl rfl rfl ?_
  refine zz_E.kt 658 rfl (by rfl) (by decide) rfl ?_
  refine zz_E.n 659 rfl rfl rfl ?_
  refine zz_E.ret rfl rfl rfl ?_
  exact ⟨rfl, by decide +kernel, by decide +kernel⟩
set_option maxRecDepth 100000 in
set_option maxHeartbeats 8000000 in
theorem zv_k15_0_6 (xs : Nat → Int32) : zz_E zp_P zt_tf zt_fd (zt_X 6 (fun q => if q = 1 then nI 0 else if q = 2 then nI 6 else xs q)) 1000 zm_law 33 zv_L [.int (nI 15)] zv_h zv_Q := by
  refine zz_E.n 579 rfl rfl rfl ?_
  refine zz_E.n 580 rfl rfl rfl ?_
  refine zz_E.n 581 rfl rfl rfl ?_
  refine zz_E.n 582 rfl rfl rfl ?_
  refine zz_E.n 583 rfl rfl rfl ?_
  refine zz_E.n 584 rfl rfl rfl ?_
  refine zz_E.n 585 rfl rfl rfl ?_
  refine zz_E.n 586 rfl rfl rfl ?_
  refine zz_E.n 587 rfl rfl rfl ?_
  refine zz_E.n 588 rfl rfl rfl ?_
  refine zz_E.n 589 rfl rfl rfl ?_
  refine zz_E.n 590 rfl rfl rfl ?_
  refine zz_E.cl (M' := zm_17) 593 rfl rfl (by decide) rfl rfl ⟨rfl, Nat.le_of_ble_eq_true rfl⟩ rfl ?_
  refine zz_E.n 1 rfl rfl rfl ?_
  refine zz_E.cl (M' := zm_21) 4 rfl rfl (by decide) rfl rfl ⟨rfl, Nat.le_of_ble_eq_true rfl⟩ rfl ?_
  refine zz_E.n 1 rfl rfl rfl ?_
  refine zz_E.jf 4 rfl (by rfl) (by decide) rfl ?_
  refine zz_E.n 5 rfl rfl rfl ?_
  refine zz_E.n 7 rfl rfl rfl ?_
  refine zz_E.kf 10 rfl (by rfl) (by decide) rfl ?_
  refine zz_E.n 11 rfl rfl rfl ?_
  refine zz_E.n 15 rfl rfl rfl ?_
  refine zz_E.ret rfl rfl rfl ?_
  refine zz_E.jf 7 rfl (by rfl) (by decide) rfl ?_
  refine zz_E.n 8 rfl rfl rfl ?_
  refine zz_E.cl (M' := zm_21) 11 rfl rfl (by decide) rfl rfl ⟨rfl, Nat.le_of_ble_eq_true rfl⟩ rfl ?_
  refine zz_E.n 1 rfl rfl rfl ?_
  refine zz_E.jf 4 rfl (by rfl) (by decide) rfl ?_
  refine zz_E.n 5 rfl rfl rfl ?_
  refine zz_E.n 7 rfl rfl rfl ?_
  refine zz_E.kf 10 rfl (by rfl) (by decide) rfl ?_
  refine zz_E.n 11 rfl rfl rfl ?_
  refine zz_E.n 15 rfl rfl rfl ?_
  refine zz_E.ret rfl rfl rfl ?_
  refine zz_E.jf 14 rfl (by rfl) (by decide) rfl ?_
  refine zz_E.n 15 rfl rfl rfl ?_
  refine zz_E.n 18 rfl rfl rfl ?_
  refine zz_E.n 19 rfl rfl rfl ?_
  refine zz_E.n 20 rfl rfl rfl ?_
  refine zz_E.cl (M' := zm_27) 23 rfl rfl (by decide) rfl rfl ⟨rfl, Nat.le_of_ble_eq_true rfl⟩ rfl ?_
  refine zz_E.n 1 rfl rfl rfl ?_
  refine zz_E.n 4 rfl rfl rfl ?_
  refine zz_E.n 5 rfl rfl rfl ?_
  refine zz_E.n 6 rfl rfl rfl ?_
  refine zz_E.n 7 rfl rfl rfl ?_
  refine zz_E.n 10 rfl rfl rfl ?_
  refine zz_E.n 11 rfl rfl rfl ?_
  refine zz_E.n 12 rfl rfl rfl ?_
  refine zz_E.kf 15 rfl (by rfl) (by decide) rfl ?_
  refine zz_E.n 16 rfl rfl rfl ?_
  refine zz_E.n 20 rfl rfl rfl ?_
  refine zz_E.n 21 rfl rfl rfl ?_
  refine zz_E.n 22 rfl rfl rfl ?_
  refine zz_E.n 24 rfl rfl rfl ?_
  refine zz_E.n 26 rfl rfl rfl ?_
  refine zz_E.n 27 rfl rfl rfl ?_
  refine zz_E.n 30 rfl rfl rfl ?_
  refine zz_E.n 31 rfl rfl rfl ?_
  refine zz_E.n 32 rfl rfl rfl ?_
  refine zz_E.kt 72 rfl (by rfl) (by decide) rfl ?_
  refine zz_E.n 73 rfl rfl rfl ?_
  refine zz_E.ret rfl rfl rfl ?_
  refine zz_E.jf 26 rfl (by rfl) (by decide) rfl ?_
  refine zz_E.n 27 rfl rfl rfl ?_
  refine zz_E.n 31 rfl rfl rfl ?_
  refine zz_E.ret rfl rfl rfl ?_
  refine zz_E.n 594 rfl rfl rfl ?_
  refine zz_E.n 595 rfl rfl rfl ?_
  refine zz_E.n 596 rfl rfl rfl ?_
  refine zz_E.n 597 rfl rfl rfl ?_
  refine zz_E.n 598 rfl rfl rfl ?_
  refine zz_E.n 599 rfl rfl rfl ?_
  refine zz_E.n 600 rfl rfl rfl ?_
  refine zz_E.n 601 rfl rfl rfl ?_
  refine zz_E.n 602 rfl rfl rfl ?_
  refine zz_E.n 603 rfl rfl rfl ?_
  refine zz_E.n 604 rfl rfl rfl ?_
  refine zz_E.cl (M' := zm_82) 607 rfl rfl (by decide) rfl rfl ⟨rfl, Nat.le_of_ble_eq_true rfl⟩ rfl ?_
  refine zz_E.n 1 rfl rfl rfl ?_
  refine zz_E.cl (M' := zm_73) 4 rfl rfl (by decide) rfl rfl ⟨rfl, Nat.le_of_ble_eq_true rfl⟩ rfl ?_
  refine zz_E.n 1 rfl rfl rfl ?_
  refine zz_E.jf 4 rfl (by rfl) (by decide) rfl ?_
  refine zz_E.n 5 rfl rfl rfl ?_
  refine zz_E.n 7 rfl rfl rfl ?_
  refine zz_E.kf 10 rfl (by rfl) (by decide) rfl ?_
  refine zz_E.n 11 rfl rfl rfl ?_
  refine zz_E.n 15 rfl rfl rfl ?_
  refine zz_E.ret rfl rfl rfl ?_
  refine zz_E.jf 7 rfl (by rfl) (by decide) rfl ?_
  refine zz_E.n 8 rfl rfl rfl ?_
  refine zz_E.cl (M' := zm_73) 11 rfl rfl (by decide) rfl rfl ⟨rfl, Nat.le_of_ble_eq_true rfl⟩ rfl ?_
  refine zz_E.n 1 rfl rfl rfl ?_
  refine zz_E.jf 4 rfl (by rfl) (by decide) rfl ?_
  refine zz_E.n 5 rfl rfl rfl ?_
  refine zz_E.n 7 rfl rfl rfl ?_
  refine zz_E.kf 10 rfl (by rfl) (by decide) rfl ?_
  refine zz_E.n 11 rfl rfl rfl ?_
  refine zz_E.n 15 rfl rfl rfl ?_
  refine zz_E.ret rfl rfl rfl ?_
  refine zz_E.jt 16 rfl (by rfl) (by decide) rfl ?_
  refine zz_E.n 19 rfl rfl rfl ?_
  refine zz_E.n 20 rfl rfl rfl ?_
  refine zz_E.n 21 rfl rfl rfl ?_
  refine zz_E.n 22 rfl rfl rfl ?_
  refine zz_E.n 25 rfl rfl rfl ?_
  refine zz_E.n 26 rfl rfl rfl ?_
  refine zz_E.n 27 rfl rfl rfl ?_
  refine zz_E.n 29 rfl rfl rfl ?_
  refine zz_E.n 30 rfl rfl rfl ?_
  refine zz_E.n 33 rfl rfl rfl ?_
  refine zz_E.n 34 rfl rfl rfl ?_
  refine zz_E.n 35 rfl rfl rfl ?_
  refine zz_E.jt 48 rfl (by rfl) (by decide) rfl ?_
  refine zz_E.n 49 rfl rfl rfl ?_
  refine zz_E.n 52 rfl rfl rfl ?_
  refine zz_E.n 53 rfl rfl rfl ?_
  refine zz_E.n 54 rfl rfl rfl ?_
  refine zz_E.n 55 rfl rfl rfl ?_
  refine zz_E.n 58 rfl rfl rfl ?_
  refine zz_E.n 60 rfl rfl rfl ?_
  refine zz_E.n 61 rfl rfl rfl ?_
  refine zz_E.kf 64 rfl (by rfl) (by decide) rfl ?_
  refine zz_E.n 65 rfl rfl rfl ?_
  refine zz_E.n 68 rfl rfl rfl ?_
  refine zz_E.n 69 rfl rfl rfl ?_
  refine zz_E.n 70 rfl rfl rfl ?_
  refine zz_E.jt 93 rfl (by rfl) (by decide) rfl ?_
  refine zz_E.n 94 rfl rfl rfl ?_
  refine zz_E.n 98 rfl rfl rfl ?_
  refine zz_E.ret rfl rfl rfl ?_
  refine zz_E.kt 652 rfl (by rfl) (by decide) rfl ?_
  refine zz_E.n 655 rfl rfl rfl ?_
  refine zz_E.n 18 rfl rfl rfl ?_
  refine zz_E.n 19 rfl rfl rfl ?_
  refine zz_E.n 20 rfl rfl rfl ?_
  refine zz_E.n 21 rfl rfl rfl ?_
  refine zz_E.n 23 rfl rfl rfl ?_
  refine zz_E.n 24 rfl rfl rfl ?_
  refine zz_E.kt 658 rfl (by rfl) (by decide) rfl ?_
  refine zz_E.n 659 rfl rfl rfl ?_
  refine zz_E.ret rfl rfl rfl ?_
  exact ⟨rfl, by decide +kernel, by decide +kernel⟩
set_option maxRecDepth 100000 in
set_option maxHeartbeats 8000000 in
theorem zv_k15_0_7 (xs : Nat → Int32) : zz_E zp_P zt_tf zt_fd (zt_X 6 (fun q => if q = 1 then nI 0 else if q = 2 then nI 7 else xs q)) 1000 zm_law 33 zv_L [.int (nI 15)] zv_h zv_Q := by
  refine zz_E.n 579 rfl rfl rfl ?_
  refine zz_E.n 580 rfl rfl rfl ?_
  refine zz_E.n 581 rfl rfl rfl ?_
  refine zz_E.n 582 rfl rfl rfl ?_
  refine zz_E.n 583 rfl rfl rfl ?_
  refine zz_E.n 584 rfl rfl rfl ?_
  refine zz_E.n 585 rfl rfl rfl ?_
  refine zz_E.n 586 rfl rfl rfl ?_
  refine zz_E.n 587 rfl rfl rfl ?_
  refine zz_E.n 588 rfl rfl rfl ?_
  refine zz_E.n 589 rfl rfl rfl ?_
  refine zz_E.n 590 rfl rfl rfl ?_
  refine zz_E.cl (M' := zm_17) 593 rfl rfl (by decide) rfl rfl ⟨rfl, Nat.le_of_ble_eq_true rfl⟩ rfl ?_
  refine zz_E.n 1 rfl rfl rfl ?_
  refine zz_E.cl (M' := zm_21) 4 rfl rfl (by decide) rfl rfl ⟨rfl, Nat.le_of_ble_eq_true rfl⟩ rfl ?_
  refine zz_E.n 1 rfl rfl rfl ?_
  refine zz_E.jf 4 rfl (by rfl) (by decide) rfl ?_
  refine zz_E.n 5 rfl rfl rfl ?_
  refine zz_E.n 7 rfl rfl rfl ?_
  refine zz_E.kf 10 rfl (by rfl) (by decide) rfl ?_
  refine zz_E.n 11 rfl rfl rfl ?_
  refine zz_E.n 15 rfl rfl rfl ?_
  refine zz_E.ret rfl rfl rfl ?_
  refine zz_E.jf 7 rfl (by rfl) (by decide) rfl ?_
  refine zz_E.n 8 rfl rfl rfl ?_
  refine zz_E.cl (M' := zm_21) 11 rfl rfl (by decide) rfl rfl ⟨rfl, Nat.le_of_ble_eq_true rfl⟩ rfl ?_
  refine zz_E.n 1 rfl rfl rfl ?_
  refine zz_E.jf 4 rfl (by rfl) (by decide) rfl ?_
  refine zz_E.n 5 rfl rfl rfl ?_
  refine zz_E.n 7 rfl rfl rfl ?_
  refine zz_E.kf 10 rfl (by rfl) (by decide) rfl ?_
  refine zz_E.n 11 rfl rfl rfl ?_
  refine zz_E.n 15 rfl rfl rfl ?_
  refine zz_E.ret rfl rfl rfl ?_
  refine zz_E.jf 14 rfl (by rfl) (by decide) rfl ?_
  refine zz_E.n 15 rfl rfl rfl ?_
  refine zz_E.n 18 rfl rfl rfl ?_
  refine zz_E.n 19 rfl rfl rfl ?_
  refine zz_E.n 20 rfl rfl rfl ?_
  refine zz_E.cl (M' := zm_27) 23 rfl rfl (by decide) rfl rfl ⟨rfl, Nat.le_of_ble_eq_true rfl⟩ rfl ?_
  refine zz_E.n 1 rfl rfl rfl ?_
  refine zz_E.n 4 rfl rfl rfl ?_
  refine zz_E.n 5 rfl rfl rfl ?_
  refine zz_E.n 6 rfl rfl rfl ?_
  refine zz_E.n 7 rfl rfl rfl ?_
  refine zz_E.n 10 rfl rfl rfl ?_
  refine zz_E.n 11 rfl rfl rfl ?_
  refine zz_E.n 12 rfl rfl rfl ?_
  refine zz_E.kf 15 rfl (by rfl) (by decide) rfl ?_
  refine zz_E.n 16 rfl rfl rfl ?_
  refine zz_E.n 20 rfl rfl rfl ?_
  refine zz_E.n 21 rfl rfl rfl ?_
  refine zz_E.n 22 rfl rfl rfl ?_
  refine zz_E.n 24 rfl rfl rfl ?_
  refine zz_E.n 26 rfl rfl rfl ?_
  refine zz_E.n 27 rfl rfl rfl ?_
  refine zz_E.n 30 rfl rfl rfl ?_
  refine zz_E.n 31 rfl rfl rfl ?_
  refine zz_E.n 32 rfl rfl rfl ?_
  refine zz_E.kt 72 rfl (by rfl) (by decide) rfl ?_
  refine zz_E.n 73 rfl rfl rfl ?_
  refine zz_E.ret rfl rfl rfl ?_
  refine zz_E.jf 26 rfl (by rfl) (by decide) rfl ?_
  refine zz_E.n 27 rfl rfl rfl ?_
  refine zz_E.n 31 rfl rfl rfl ?_
  refine zz_E.ret rfl rfl rfl ?_
  refine zz_E.n 594 rfl rfl rfl ?_
  refine zz_E.n 595 rfl rfl rfl ?_
  refine zz_E.n 596 rfl rfl rfl ?_
  refine zz_E.n 597 rfl rfl rfl ?_
  refine zz_E.n 598 rfl rfl rfl ?_
  refine zz_E.n 599 rfl rfl rfl ?_
  refine zz_E.n 600 rfl rfl rfl ?_
  refine zz_E.n 601 rfl rfl rfl ?_
  refine zz_E.n 602 rfl rfl rfl ?_
  refine zz_E.n 603 rfl rfl rfl ?_
  refine zz_E.n 604 rfl rfl rfl ?_
  refine zz_E.cl (M' := zm_82) 607 rfl rfl (by decide) rfl rfl ⟨rfl, Nat.le_of_ble_eq_true rfl⟩ rfl ?_
  refine zz_E.n 1 rfl rfl rfl ?_
  refine zz_E.cl (M' := zm_73) 4 rfl rfl (by decide) rfl rfl ⟨rfl, Nat.le_of_ble_eq_true rfl⟩ rfl ?_
  refine zz_E.n 1 rfl rfl rfl ?_
  refine zz_E.jf 4 rfl (by rfl) (by decide) rfl ?_
  refine zz_E.n 5 rfl rfl rfl ?_
  refine zz_E.n 7 rfl rfl rfl ?_
  refine zz_E.kf 10 rfl (by rfl) (by decide) rfl ?_
  refine zz_E.n 11 rfl rfl rfl ?_
  refine zz_E.n 15 rfl rfl rfl ?_
  refine zz_E.ret rfl rfl rfl ?_
  refine zz_E.jf 7 rfl (by rfl) (by decide) rfl ?_
  refine zz_E.n 8 rfl rfl rfl ?_
  refine zz_E.cl (M' := zm_73) 11 rfl rfl (by decide) rfl rfl ⟨rfl, Nat.le_of_ble_eq_true rfl⟩ rfl ?_
  refine zz_E.n 1 rfl rfl rfl ?_
  refine zz_E.jf 4 rfl (by rfl) (by decide) rfl ?_
  refine zz_E.n 5 rfl rfl rfl ?_
  refine zz_E.n 7 rfl rfl rfl ?_
  refine zz_E.kf 10 rfl (by rfl) (by decide) rfl ?_
  refine zz_E.n 11 rfl rfl rfl ?_
  refine zz_E.n 15 rfl rfl rfl ?_
  refine zz_E.ret rfl rfl rfl ?_
  refine zz_E.jt 16 rfl (by rfl) (by decide) rfl ?_
  refine zz_E.n 19 rfl rfl rfl ?_
  refine zz_E.n 20 rfl rfl rfl ?_
  refine zz_E.n 21 rfl rfl rfl ?_
  refine zz_E.n 22 rfl rfl rfl ?_
  refine zz_E.n 25 rfl rfl rfl ?_
  refine zz_E.n 26 rfl rfl rfl ?_
  refine zz_E.n 27 rfl rfl rfl ?_
  refine zz_E.n 29 rfl rfl rfl ?_
  refine zz_E.n 30 rfl rfl rfl ?_
  refine zz_E.n 33 rfl rfl rfl ?_
  refine zz_E.n 34 rfl rfl rfl ?_
  refine zz_E.n 35 rfl rfl rfl ?_
  refine zz_E.jt 48 rfl (by rfl) (by decide) rfl ?_
  refine zz_E.n 49 rfl rfl rfl ?_
  refine zz_E.n 52 rfl rfl rfl ?_
  refine zz_E.n 53 rfl rfl rfl ?_
  refine zz_E.n 54 rfl rfl rfl ?_
  refine zz_E.n 55 rfl rfl rfl ?_
  refine zz_E.n 58 rfl rfl rfl ?_
  refine zz_E.n 60 rfl rfl rfl ?_
  refine zz_E.n 61 rfl rfl rfl ?_
  refine zz_E.kf 64 rfl (by rfl) (by decide) rfl ?_
  refine zz_E.n 65 rfl rfl rfl ?_
  refine zz_E.n 68 rfl rfl rfl ?_
  refine zz_E.n 69 rfl rfl rfl ?_
  refine zz_E.n 70 rfl rfl rfl ?_
  refine zz_E.jt 93 rfl (by rfl) (by decide) rfl ?_
  refine zz_E.n 94 rfl rfl rfl ?_
  refine zz_E.n 98 rfl rfl rfl ?_
  refine zz_E.ret rfl rfl rfl ?_
  refine zz_E.kt 652 rfl (by rfl) (by decide) rfl ?_
  refine zz_E.n 655 rfl rfl rfl ?_
  refine zz_E.n 18 rfl rfl rfl ?_
  refine zz_E.n 19 rfl rfl rfl ?_
  refine zz_E.n 20 rfl rfl rfl ?_
  refine zz_E.n 21 rfl rfl rfl ?_
  refine zz_E.n 23 rfl rfl rfl ?_
  refine zz_E.n 24 rfl rfl rfl ?_
  refine zz_E.kt 658 rfl (by rfl) (by decide) rfl ?_
  refine zz_E.n 659 rfl rfl rfl ?_
  refine zz_E.ret rfl rfl rfl ?_
  exact ⟨rfl, by decide +kernel, by decide +kernel⟩
set_option maxRecDepth 100000 in
set_option maxHeartbeats 8000000 in
theorem zv_k15_1_0 (xs : Nat → Int32) : zz_E zp_P zt_tf zt_fd (zt_X 6 (fun q => if q = 1 then nI 1 else if q = 2 then nI 0 else xs q)) 1000 zm_law 33 zv_L [.int (nI 15)] zv_h zv_Q := by
  refine zz_E.n 579 rfl rfl rfl ?_
  refine zz_E.n 580 rfl rfl rfl ?_
  refine zz_E.n 581 rfl rfl rfl ?_
  refine zz_E.n 582 rfl rfl rfl ?_
  refine zz_E.n 583 rfl rfl rfl ?_
  refine zz_E.n 584 rfl rfl rfl ?_
  refine zz_E.n 585 rfl rfl rfl ?_
  refine zz_E.n 586 rfl rfl rfl ?_
  refine zz_E.n 587 rfl rfl rfl ?_
  refine zz_E.n 588 rfl rfl rfl ?_
  refine zz_E.n 589 rfl rfl rfl ?_
  refine zz_E.n 590 rfl rfl rfl ?_
  refine zz_E.cl (M' := zm_17) 593 rfl rfl (by decide) rfl rfl ⟨rfl, Nat.le_of_ble_eq_true rfl⟩ rfl ?_
  refine zz_E.n 1 rfl rfl rfl ?_
  refine zz_E.cl (M' := zm_21) 4 rfl rfl (by decide) rfl rfl ⟨rfl, Nat.le_of_ble_eq_true rfl⟩ rfl ?_
  refine zz_E.n 1 rfl rfl rfl ?_
  refine zz_E.jf 4 rfl (by rfl) (by decide) rfl ?_
  refine zz_E.n 5 rfl rfl rfl ?_
  refine zz_E.n 7 rfl rfl rfl ?_
  refine zz_E.kf 10 rfl (by rfl) (by decide) rfl ?_
  refine zz_E.n 11 rfl rfl rfl ?_
  refine zz_E.n 15 rfl rfl rfl ?_
  refine zz_E.ret rfl rfl rfl ?_
  refine zz_E.jf 7 rfl (by rfl) (by decide) rfl ?_
  refine zz_E.n 8 rfl rfl rfl ?_
  refine zz_E.cl (M' := zm_21) 11 rfl rfl (by decide) rfl rfl ⟨rfl, Nat.le_of_ble_eq_true rfl⟩ rfl ?_
  refine zz_E.n 1 rfl rfl rfl ?_
  refine zz_E.jf 4 rfl (by rfl) (by decide) rfl ?_
  refine zz_E.n 5 rfl rfl rfl ?_
  refine zz_E.n 7 rfl rfl rfl ?_
  refine zz_E.kf 10 rfl (by rfl) (by decide) rfl ?_
  refine zz_E.n 11 rfl rfl rfl ?_
  refine zz_E.n 15 rfl rfl rfl ?_
  refine zz_E.ret rfl rfl rfl ?_
  refine zz_E.jf 14 rfl (by rfl) (by decide) rfl ?_
  refine zz_E.n 15 rfl rfl rfl ?_
  refine zz_E.n 18 rfl rfl rfl ?_
  refine zz_E.n 19 rfl rfl rfl ?_
  refine zz_E.n 20 rfl rfl rfl ?_
  refine zz_E.cl (M' := zm_27) 23 rfl rfl (by decide) rfl rfl ⟨rfl, Nat.le_of_ble_eq_true rfl⟩ rfl ?_
  refine zz_E.n 1 rfl rfl rfl ?_
  refine zz_E.n 4 rfl rfl rfl ?_
  refine zz_E.n 5 rfl rfl rfl ?_
  refine zz_E.n 6 rfl rfl rfl ?_
  refine zz_E.n 7 rfl rfl rfl ?_
  refine zz_E.n 10 rfl rfl rfl ?_
  refine zz_E.n 11 rfl rfl rfl ?_
  refine zz_E.n 12 rfl rfl rfl ?_
  refine zz_E.kf 15 rfl (by rfl) (by decide) rfl ?_
  refine zz_E.n 16 rfl rfl rfl ?_
  refine zz_E.n 20 rfl rfl rfl ?_
  refine zz_E.n 21 rfl rfl rfl ?_
  refine zz_E.n 22 rfl rfl rfl ?_
  refine zz_E.n 24 rfl rfl rfl ?_
  refine zz_E.n 26 rfl rfl rfl ?_
  refine zz_E.n 27 rfl rfl rfl ?_
  refine zz_E.n 30 rfl rfl rfl ?_
  refine zz_E.n 31 rfl rfl rfl ?_
  refine zz_E.n 32 rfl rfl rfl ?_
  refine zz_E.kt 72 rfl (by rfl) (by decide) rfl ?_
  refine zz_E.n 73 rfl rfl rfl ?_
  refine zz_E.ret rfl rfl rfl ?_
  refine zz_E.jf 26 rfl (by rfl) (by decide) rfl ?_
  refine zz_E.n 27 rfl rfl rfl ?_
  refine zz_E.n 31 rfl rfl rfl ?_
  refine zz_E.ret rfl rfl rfl ?_
  refine zz_E.n 594 rfl rfl rfl ?_
  refine zz_E.n 595 rfl rfl rfl ?_
  refine zz_E.n 596 rfl rfl rfl ?_
  refine zz_E.n 597 rfl rfl rfl ?_
  refine zz_E.n 598 rfl rfl rfl ?_
  refine zz_E.n 599 rfl rfl rfl ?_
  refine zz_E.n 600 rfl rfl rfl ?_
  refine zz_E.n 601 rfl rfl rfl ?_
  refine zz_E.n 602 rfl rfl rfl ?_
  refine zz_E.n 603 rfl rfl rfl ?_
  refine zz_E.n 604 rfl rfl rfl ?_
  refine zz_E.cl (M' := zm_82) 607 rfl rfl (by decide) rfl rfl ⟨rfl, Nat.le_of_ble_eq_true rfl⟩ rfl ?_
  refine zz_E.n 1 rfl rfl rfl ?_
  refine zz_E.cl (M' := zm_73) 4 rfl rfl (by decide) rfl rfl ⟨rfl, Nat.le_of_ble_eq_true rfl⟩ rfl ?_
  refine zz_E.n 1 rfl rfl rfl ?_
  refine zz_E.jf 4 rfl (by rfl) (by decide) rfl ?_
  refine zz_E.n 5 rfl rfl rfl ?_
  refine zz_E.n 7 rfl rfl rfl ?_
  refine zz_E.kf 10 rfl (by rfl) (by decide) rfl ?_
  refine zz_E.n 11 rfl rfl rfl ?_
  refine zz_E.n 15 rfl rfl rfl ?_
  refine zz_E.ret rfl rfl rfl ?_
  refine zz_E.jf 7 rfl (by rfl) (by decide) rfl ?_
  refine zz_E.n 8 rfl rfl rfl ?_
  refine zz_E.cl (M' := zm_73) 11 rfl rfl (by decide) rfl rfl ⟨rfl, Nat.le_of_ble_eq_true rfl⟩ rfl ?_
  refine zz_E.n 1 rfl rfl rfl ?_
  refine zz_E.jf 4 rfl (by rfl) (by decide) rfl ?_
  refine zz_E.n 5 rfl rfl rfl ?_
  refine zz_E.n 7 rfl rfl rfl ?_
  refine zz_E.kf 10 rfl (by rfl) (by decide) rfl ?_
  refine zz_E.n 11 rfl rfl rfl ?_
  refine zz_E.n 15 rfl rfl rfl ?_
  refine zz_E.ret rfl rfl rfl ?_
  refine zz_E.jt 16 rfl (by rfl) (by decide) rfl ?_
  refine zz_E.n 19 rfl rfl rfl ?_
  refine zz_E.n 20 rfl rfl rfl ?_
  refine zz_E.n 21 rfl rfl rfl ?_
  refine zz_E.n 22 rfl rfl rfl ?_
  refine zz_E.n 25 rfl rfl rfl ?_
  refine zz_E.n 26 rfl rfl rfl ?_
  refine zz_E.n 27 rfl rfl rfl ?_
  refine zz_E.n 29 rfl rfl rfl ?_
  refine zz_E.n 30 rfl rfl rfl ?_
  refine zz_E.n 33 rfl rfl rfl ?_
  refine zz_E.n 34 rfl rfl rfl ?_
  refine zz_E.n 35 rfl rfl rfl ?_
  refine zz_E.jt 48 rfl (by rfl) (by decide) rfl ?_
  refine zz_E.n 49 rfl rfl rfl ?_
  refine zz_E.n 52 rfl rfl rfl ?_
  refine zz_E.n 53 rfl rfl rfl ?_
  refine zz_E.n 54 rfl rfl rfl ?_
  refine zz_E.n 55 rfl rfl rfl ?_
  refine zz_E.n 58 rfl rfl rfl ?_
  refine zz_E.n 60 rfl rfl rfl ?_
  refine zz_E.n 61 rfl rfl rfl ?_
  refine zz_E.kf 64 rfl (by rfl) (by decide) rfl ?_
  refine zz_E.n 65 rfl rfl rfl ?_
  refine zz_E.n 68 rfl rfl rfl ?_
  refine zz_E.n 69 rfl rfl rfl ?_
  refine zz_E.n 70 rfl rfl rfl ?_
  refine zz_E.jt 93 rfl (by rfl) (by decide) rfl ?_
  refine zz_E.n 94 rfl rfl rfl ?_
  refine zz_E.n 98 rfl rfl rfl ?_
  refine zz_E.ret rfl rfl rfl ?_
  refine zz_E.kt 652 rfl (by rfl) (by decide) rfl ?_
  refine zz_E.n 655 rfl rfl rfl ?_
  refine zz_E.n 18 rfl rfl rfl ?_
  refine zz_E.n 19 rfl rfl rfl ?_
  refine zz_E.n 20 rfl rfl rfl ?_
  refine zz_E.n 21 rfl rfl rfl ?_
  refine zz_E.n 23 rfl rfl rfl ?_
  refine zz_E.n 24 rfl rfl rfl ?_
  refine zz_E.kt 658 rfl (by rfl) (by decide) rfl ?_
  refine zz_E.n 659 rfl rfl rfl ?_
  refine zz_E.ret rfl rfl rfl ?_
  exact ⟨rfl, by decide +kernel, by decide +kernel⟩
set_option maxRecDepth 100000 in
set_option maxHeartbeats 8000000 in
theorem zv_k15_1_1 (xs : Nat → Int32) : zz_E zp_P zt_tf zt_fd (zt_X 6 (fun q => if q = 1 then nI 1 else if q = 2 then nI 1 else xs q)) 1000 zm_law 33 zv_L [.int (nI 15)] zv_h zv_Q := by
  refine zz_E.n 579 rfl rfl rfl ?_
  refine zz_E.n 580 rfl rfl rfl ?_
  refine zz_E.n 581 rfl rfl rfl ?_
  refine zz_E.n 582 rfl rfl rfl ?_
  refine zz_E.n 583 rfl rfl rfl ?_
  refine zz_E.n 584 rfl rfl rfl ?_
  refine zz_E.n 585 rfl rfl rfl ?_
  refine zz_E.n 586 rfl rfl rfl ?_
  refine zz_E.n 587 rfl rfl rfl ?_
  refine zz_E.n 588 rfl rfl rfl ?_
  refine zz_E.n 589 rfl rfl rfl ?_
  refine zz_E.n 590 rfl rfl rfl ?_
  refine zz_E.cl (M' := zm_17) 593 rfl rfl (by decide) rfl rfl ⟨rfl, Nat.le_of_ble_eq_true rfl⟩ rfl ?_
  refine zz_E.n 1 rfl rfl rfl ?_
  refine zz_E.cl (M' := zm_21) 4 rfl rfl (by decide) rfl rfl ⟨rfl, Nat.le_of_ble_eq_true rfl⟩ rfl ?_
  refine zz_E.n 1 rfl rfl rfl ?_
  refine zz_E.jf 4 rfl (by rfl) (by decide) rfl ?_
  refine zz_E.n 5 rfl rfl rfl ?_
  refine zz_E.n 7 rfl rfl rfl ?_
  refine zz_E.kf 10 rfl (by rfl) (by decide) rfl ?_
  refine zz_E.n 11 rfl rfl rfl ?_
  refine zz_E.n 15 rfl rfl rfl ?_
  refine zz_E.ret rfl rfl rfl ?_
  refine zz_E.jf 7 rfl (by rfl) (by decide) rfl ?_
  refine zz_E.n 8 rfl rfl rfl ?_
  refine zz_E.cl (M' := zm_21) 11 rfl rfl (by decide) rfl rfl ⟨rfl, Nat.le_of_ble_eq_true rfl⟩ rfl ?_
  refine zz_E.n 1 rfl rfl rfl ?_
  refine zz_E.jf 4 rfl (by rfl) (by decide) rfl ?_
  refine zz_E.n 5 rfl rfl rfl ?_
  refine zz_E.n 7 rfl rfl rfl ?_
  refine zz_E.kf 10 rfl (by rfl) (by decide) rfl ?_
  refine zz_E.n 11 rfl rfl rfl ?_
  refine zz_E.n 15 rfl rfl rfl ?_
  refine zz_E.ret rfl rfl rfl ?_
  refine zz_E.jf 14 rfl (by rfl) (by decide) rfl ?_
  refine zz_E.n 15 rfl rfl rfl ?_
  refine zz_E.n 18 rfl rfl rfl ?_
  refine zz_E.n 19 rfl rfl rfl ?_
  refine zz_E.n 20 rfl rfl rfl ?_
  refine zz_E.cl (M' := zm_27) 23 rfl rfl (by decide) rfl rfl ⟨rfl, Nat.le_of_ble_eq_true rfl⟩ rfl ?_
  refine zz_E.n 1 rfl rfl rfl ?_
  refine zz_E.n 4 rfl rfl rfl ?_
  refine zz_E.n 5 rfl rfl rfl ?_
  refine zz_E.n 6 rfl rfl rfl ?_
  refine zz_E.n 7 rfl rfl rfl ?_
  refine zz_E.n 10 rfl rfl rfl ?_
  refine zz_E.n 11 rfl rfl rfl ?_
  refine zz_E.n 12 rfl rfl rfl ?_
  refine zz_E.kf 15 rfl (by rfl) (by decide) rfl ?_
  refine zz_E.n 16 rfl rfl rfl ?_
  refine zz_E.n 20 rfl rfl rfl ?_
  refine zz_E.n 21 rfl rfl rfl ?_
  refine zz_E.n 22 rfl rfl rfl ?_
  refine zz_E.n 24 rfl rfl rfl ?_
  refine zz_E.n 26 rfl rfl rfl ?_
  refine zz_E.n 27 rfl rfl rfl ?_
  refine zz_E.n 30 rfl rfl rfl ?_
  refine zz_E.n 31 rfl rfl rfl ?_
  refine zz_E.n 32 rfl rfl rfl ?_
  refine zz_E.kt 72 rfl (by rfl) (by decide) rfl ?_
  refine zz_E.n 73 rfl rfl rfl ?_
  refine zz_E.ret rfl rfl rfl ?_
  refine zz_E.jf 26 rfl (by rfl) (by decide) rfl ?_
  refine zz_E.n 27 rfl rfl rfl ?_
  refine zz_E.n 31 rfl rfl rfl ?_
  refine zz_E.ret rfl rfl rfl ?_
  refine zz_E.n 594 rfl rfl rfl ?_
  refine zz_E.n 595 rfl rfl rfl ?_
  refine zz_E.n 596 rfl rfl rfl ?_
  refine zz_E.n 597 rfl rfl rfl ?_
  refine zz_E.n 598 rfl rfl rfl ?_
  refine zz_E.n 599 rfl rfl rfl ?_
  refine zz_E.n 600 rfl rfl rfl ?_
  refine zz_E.n 601 rfl rfl rfl ?_
  refine zz_E.n 602 rfl rfl rfl ?_
  refine zz_E.n 603 rfl rfl rfl ?_
  refine zz_E.n 604 rfl rfl rfl ?_
  refine zz_E.cl (M' := zm_82) 607 rfl rfl (by decide) rfl rfl ⟨rfl, Nat.le_of_ble_eq_true rfl⟩ rfl ?_
  refine zz_E.n 1 rfl rfl rfl ?_
  refine zz_E.cl (M' := zm_73) 4 rfl rfl (by decide) rfl rfl ⟨rfl, Nat.le_of_ble_eq_true rfl⟩ rfl ?_
  refine zz_E.n 1 rfl rfl rfl ?_
  refine zz_E.jf 4 rfl (by rfl) (by decide) rfl ?_
  refine zz_E.n 5 rfl rfl rfl ?_
  refine zz_E.n 7 rfl rfl rfl ?_
  refine zz_E.kf 10 rfl (by rfl) (by decide) rfl ?_
  refine zz_E.n 11 rfl rfl rfl ?_
  refine zz_E.n 15 rfl rfl rfl ?_
  refine zz_E.ret rfl rfl rfl ?_
  refine zz_E.jf 7 rfl (by rfl) (by decide) rfl ?_
  refine zz_E.n 8 rfl rfl rfl ?_
  refine zz_E.cl (M' := zm_73) 11 rfl rfl (by decide) rfl rfl ⟨rfl, Nat.le_of_ble_eq_true rfl⟩ rfl ?_
  refine zz_E.n 1 rfl rfl rfl ?_
  refine zz_E.jf 4 rfl (by rfl) (by decide) rfl ?_
  refine zz_E.n 5 rfl rfl rfl ?_
  refine zz_E.n 7 rfl rfl rfl ?_
  refine zz_E.kf 10 rfl (by rfl) (by decide) rfl ?_
  refine zz_E.n 11 rfl rfl rfl ?_
  refine zz_E.n 15 rfl rfl rfl ?_
  refine zz_E.ret rfl rfl rfl ?_
  refine zz_E.jt 16 rfl (by rfl) (by decide) rfl ?_
  refine zz_E.n 19 rfl rfl rfl ?_
  refine zz_E.n 20 rfl rfl rfl ?_
  refine zz_E.n 21 rfl rfl rfl ?_
  refine zz_E.n 22 rfl rfl rfl ?_
  refine zz_E.n 25 rfl rfl rfl ?_
  refine zz_E.n 26 rfl rfl rfl ?_
  refine zz_E.n 27 rfl rfl rfl ?_
  refine zz_E.n 29 rfl rfl rfl ?_
  refine zz_E.n 30 rfl rfl rfl ?_
  refine zz_E.n 33 rfl rfl rfl ?_
  refine zz_E.n 34 rfl rfl rfl ?_
  refine zz_E.n 35 rfl rfl rfl ?_
  refine zz_E.jt 48 rfl (by rfl) (by decide) rfl ?_
  refine zz_E.n 49 rfl rfl rfl ?_
  refine zz_E.n 52 rfl rfl rfl ?_
  refine zz_E.n 53 rfl rfl rfl ?_
  refine zz_E.n 54 rfl rfl rfl ?_
  refine zz_E.n 55 rfl rfl rfl ?_
  refine zz_E.n 58 rfl rfl rfl ?_
  refine zz_E.n 60 rfl rfl rfl ?_
  refine zz_E.n 61 rfl rfl rfl ?_
  refine zz_E.kf 64 rfl (by rfl) (by decide) rfl ?_
  refine zz_E.n 65 rfl rfl rfl ?_
  refine zz_E.n 68 rfl rfl rfl ?_
  refine zz_E.n 69 rfl rfl rfl ?_
  refine zz_E.n 70 rfl rfl rfl ?_
  refine zz_E.jt 93 rfl (by rfl) (by decide) rfl ?_
  refine zz_E.n 94 rfl rfl rfl ?_
  refine zz_E.n 98 rfl rfl rfl ?_
  refine zz_E.ret rfl rfl rfl ?_
  refine zz_E.kt 652 rfl (by rfl) (by decide) rfl ?_
  refine zz_E.n 655 rfl rfl rfl ?_
  refine zz_E.n 18 rfl rfl rfl ?_
  refine zz_E.n 19 rfl rfl rfl ?_
  refine zz_E.n 20 rfl rfl rfl ?_
  refine zz_E.n 21 rfl rfl rfl ?_
  refine zz_E.n 23 rfl rfl rfl ?_
  refine zz_E.n 24 rfl rfl rfl ?_
  refine zz_E.kt 658 rfl (by rfl) (by decide) rfl ?_
  refine zz_E.n 659 rfl rfl rfl ?_
  refine zz_E.ret rfl rfl rfl ?_
  exact ⟨rfl, by decide +kernel, by decide +kernel⟩
set_option maxRecDepth 100000 in
set_option maxHeartbeats 8000000 in
theorem zv_k15_1_2 (xs : Nat → Int32) : zz_E zp_P zt_tf zt_fd (zt_X 6 (fun q => if q = 1 then nI 1 else if q = 2 then nI 2 else xs q)) 1000 zm_law 33 zv_L [.int (nI 15)] zv_h zv_Q := by
  refine zz_E.n 579 rfl rfl rfl ?_
  refine zz_E.n 580 rfl rfl rfl ?_
  refine zz_E.n 581 rfl rfl rfl ?_
  refine zz_E.n 582 rfl rfl rfl ?_
  refine zz_E.n 583 rfl rfl rfl ?_
  refine zz_E.n 584 rfl rfl rfl ?_
  refine zz_E.n 585 rfl rfl rfl ?_
  refine zz_E.n 586 rfl rfl rfl ?_
  refine zz_E.n 587 rfl rfl rfl ?_
  refine zz_E.n 588 rfl rfl rfl ?_
  refine zz_E.n 589 rfl rfl rfl ?_
  refine zz_E.n 590 rfl rfl rfl ?_
  refine zz_E.cl (M' := zm_17) 593 rfl rfl (by decide) rfl rfl ⟨rfl, Nat.le_of_ble_eq_true rfl⟩ rfl ?_
  refine zz_E.n 1 rfl rfl rfl ?_
  refine zz_E.cl (M' := zm_21) 4 rfl rfl (by decide) rfl rfl ⟨rfl, Nat.le_of_ble_eq_true rfl⟩ rfl ?_
  refine zz_E.n 1 rfl rfl rfl ?_
  refine zz_E.jf 4 rfl (by rfl) (by decide) rfl ?_
  refine zz_E.n 5 rfl rfl rfl ?_
  refine zz_E.n 7 rfl rfl rfl ?_
  refine zz_E.kf 10 rfl (by rfl) (by decide) rfl ?_
  refine zz_E.n 11 rfl rfl rfl ?_
  refine zz_E.n 15 rfl rfl rfl ?_
  refine zz_E.ret rfl rfl rfl ?_
  refine zz_E.jf 7 rfl (by rfl) (by decide) rfl ?_
  refine zz_E.n 8 rfl rfl rfl ?_
  refine zz_E.cl (M' := zm_21) 11 rfl rfl (by decide) rfl rfl ⟨rfl, Nat.le_of_ble_eq_true rfl⟩ rfl ?_
  refine zz_E.n 1 rfl rfl rfl ?_
  refine zz_E.jf 4 rfl (by rfl) (by decide) rfl ?_
  refine zz_E.n 5 rfl rfl rfl ?_
  refine zz_E.n 7 rfl rfl rfl ?_
  refine zz_E.kf 10 rfl (by rfl) (by decide) rfl ?_
  refine zz_E.n 11 rfl rfl rfl ?_
  refine zz_E.n 15 rfl rfl rfl ?_
  refine zz_E.ret rfl rfl rfl ?_
  refine zz_E.jf 14 rfl (by rfl) (by decide) rfl ?_
  refine zz_E.n 15 rfl rfl rfl ?_
  refine zz_E.n 18 rfl rfl rfl ?_
  refine zz_E.n 19 rfl rfl rfl ?_
  refine zz_E.n 20 rfl rfl rfl ?_
  refine zz_E.cl (M' := zm_27) 23 rfl rfl (by decide) rfl rfl ⟨rfl, Nat.le_of_ble_eq_true rfl⟩ rfl ?_
  refine zz_E.n 1 rfl rfl rfl ?_
  refine zz_E.n 4 rfl rfl rfl ?_
  refine zz_E.n 5 rfl rfl rfl ?_
  refine zz_E.n 6 rfl rfl rfl ?_
  refine zz_E.n 7 rfl rfl rfl ?_
  refine zz_E.n 10 rfl rfl rfl ?_
  refine zz_E.n 11 rfl rfl rfl ?_
  refine zz_E.n 12 rfl rfl rfl ?_
  refine zz_E.kf 15 rfl (by rfl) (by decide) rfl ?_
  refine zz_E.n 16 rfl rfl rfl ?_
  refine zz_E.n 20 rfl rfl rfl ?_
  refine zz_E.n 21 rfl rfl rfl ?_
  refine zz_E.n 22 rfl rfl rfl ?_
  refine zz_E.n 24 rfl rfl rfl ?_
  refine zz_E.n 26 rfl rfl rfl ?_
  refine zz_E.n 27 rfl rfl rfl ?_
  refine zz_E.n 30 rfl rfl rfl ?_
  refine zz_E.n 31 rfl rfl rfl ?_
  refine zz_E.n 32 rfl rfl rfl ?_
  refine zz_E.kt 72 rfl (by rfl) (by decide) rfl ?_
  refine zz_E.n 73 rfl rfl rfl ?_
  refine zz_E.ret rfl rfl rfl ?_
  refine zz_E.jf 26 rfl (by rfl) (by decide) rfl ?_
  refine zz_E.n 27 rfl rfl rfl ?_
  refine zz_E.n 31 rfl rfl rfl ?_
  refine zz_E.ret rfl rfl rfl ?_
  refine zz_E.n 594 rfl rfl rfl ?_
  refine zz_E.n 595 rfl rfl rfl ?_
  refine zz_E.n 596 rfl rfl rfl ?_
  refine zz_E.n 597 rfl rfl rfl ?_
  refine zz_E.n 598 rfl rfl rfl ?_
  refine zz_E.n 599 rfl rfl rfl ?_
  refine zz_E.n 600 rfl rfl rfl ?_
  refine zz_E.n 601 rfl rfl rfl ?_
  refine zz_E.n 602 rfl rfl rfl ?_
  refine zz_E.n 603 rfl rfl rfl ?_
  refine zz_E.n 604 rfl rfl rfl ?_
  refine zz_E.cl (M' := zm_82) 607 rfl rfl (by decide) rfl rfl ⟨rfl, Nat.le_of_ble_eq_true rfl⟩ rfl ?_
  refine zz_E.n 1 rfl rfl rfl ?_
  refine zz_E.cl (M' := zm_73) 4 rfl rfl (by decide) rfl rfl ⟨rfl, Nat.le_of_ble_eq_true rfl⟩ rfl ?_
  refine zz_E.n 1 rfl rfl rfl ?_
  refine zz_E.jf 4 rfl (by rfl) (by decide) rfl ?_
  refine zz_E.n 5 rfl rfl rfl ?_
  refine zz_E.n 7 rfl rfl rfl ?_
  refine zz_E.kf 10 rfl (by rfl) (by decide) rfl ?_
  refine zz_E.n 11 rfl rfl rfl ?_
  refine zz_E.n 15 rfl rfl rfl ?_
  refine zz_E.ret rfl rfl rfl ?_
  refine zz_E.jf 7 rfl (by rfl) (by decide) rfl ?_
  refine zz_E.n 8 rfl rfl rfl ?_
  refine zz_E.cl (M' := zm_73) 11 rfl rfl (by decide) rfl rfl ⟨rfl, Nat.le_of_ble_eq_true rfl⟩ rfl ?_
  refine zz_E.n 1 rfl rfl rfl ?_
  refine zz_E.jf 4 rfl (by rfl) (by decide) rfl ?_
  refine zz_E.n 5 rfl rfl rfl ?_
  refine zz_E.n 7 rfl rfl rfl ?_
  refine zz_E.kf 10 rfl (by rfl) (by decide) rfl ?_
  refine zz_E.n 11 rfl rfl rfl ?_
  refine zz_E.n 15 rfl rfl rfl ?_
  refine zz_E.ret rfl rfl rfl ?_
  refine zz_E.jt 16 rfl (by rfl) (by decide) rfl ?_
  refine zz_E.n 19 rfl rfl rfl ?_
  refine zz_E.n 20 rfl rfl rfl ?_
  refine zz_E.n 21 rfl rfl rfl ?_
  refine zz_E.n 22 rfl rfl rfl ?_
  refine zz_E.n 25 rfl rfl rfl ?_
  refine zz_E.n 26 rfl rfl rfl ?_
  refine zz_E.n 27 rfl rfl rfl ?_
  refine zz_E.n 29 rfl rfl rfl ?_
  refine zz_E.n 30 rfl rfl rfl ?_
  refine zz_E.n 33 rfl rfl rfl ?_
  refine zz_E.n 34 rfl rfl rfl ?_
  refine zz_E.n 35 rfl rfl rfl ?_
  refine zz_E.jt 48 rfl (by rfl) (by decide) rfl ?_
  refine zz_E.n 49 rfl rfl rfl ?_
  refine zz_E.n 52 rfl rfl rfl ?_
  refine zz_E.n 53 rfl rfl rfl ?_
  refine zz_E.n 54 rfl rfl rfl ?_
  refine zz_E.n 55 rfl rfl rfl ?_
  refine zz_E.n 58 rfl rfl rfl ?_
  refine zz_E.n 60 rfl rfl rfl ?_
  refine zz_E.n 61 rfl rfl rfl ?_
  refine zz_E.kf 64 rfl (by rfl) (by decide) rfl ?_
  refine zz_E.n 65 rfl rfl rfl ?_
  refine zz_E.n 68 rfl rfl rfl ?_
  refine zz_E.n 69 rfl rfl rfl ?_
  refine zz_E.n 70 rfl rfl rfl ?_
  refine zz_E.jt 93 rfl (by rfl) (by decide) rfl ?_
  refine zz_E.n 94 rfl rfl rfl ?_
  refine zz_E.n 98 rfl rfl rfl ?_
  refine zz_E.ret rfl rfl rfl ?_
  refine zz_E.kt 652 rfl (by rfl) (by decide) rfl ?_
  refine zz_E.n 655 rfl rfl rfl ?_
  refine zz_E.n 18 rfl rfl rfl ?_
  refine zz_E.n 19 rfl rfl rfl ?_
  refine zz_E.n 20 rfl rfl rfl ?_
  refine zz_E.n 21 rfl rfl rfl ?_
  refine zz_E.n 23 rfl rfl rfl ?_
  refine zz_E.n 24 rfl rfl rfl ?_
  refine zz_E.kt 658 rfl (by rfl) (by decide) rfl ?_
  refine zz_E.n 659 rfl rfl rfl ?_
  refine zz_E.ret rfl rfl rfl ?_
  exact ⟨rfl, by decide +kernel, by decide +kernel⟩
set_option maxRecDepth 100000 in
set_option maxHeartbeats 8000000 in
theorem zv_k15_1_3 (xs : Nat → Int32) : zz_E zp_P zt_tf zt_fd (zt_X 6 (fun q => if q = 1 then nI 1 else if q = 2 then nI 3 else xs q)) 1000 zm_law 33 zv_L [.int (nI 15)] zv_h zv_Q := by
  refine zz_E.n 579 rfl rfl rfl ?_
  refine zz_E.n 580 rfl rfl rfl ?_
  refine zz_E.n 581 rfl rfl rfl ?_
  refine zz_E.n 582 rfl rfl rfl ?_
  refine zz_E.n 583 rfl rfl rfl ?_
  refine zz_E.n 584 rfl rfl rfl ?_
  refine zz_E.n 585 rfl rfl rfl ?_
  refine zz_E.n 586 rfl rfl rfl ?_
  refine zz_E.n 587 rfl rfl rfl ?_
  refine zz_E.n 588 rfl rfl rfl ?_
  refine zz_E.n 589 rfl rfl rfl ?_
  refine zz_E.n 590 rfl rfl rfl ?_
  refine zz_E.cl (M' := zm_17) 593 rfl rfl (by decide) rfl rfl ⟨rfl, Nat.le_of_ble_eq_true rfl⟩ rfl ?_
  refine zz_E.n 1 rfl rfl rfl ?_
  refine zz_E.cl (M' := zm_21) 4 rfl rfl (by decide) rfl rfl ⟨rfl, Nat.le_of_ble_eq_true rfl⟩ rfl ?_
  refine zz_E.n 1 rfl rfl rfl ?_
  refine zz_E.jf 4 rfl (by rfl) (by decide) rfl ?_
  refine zz_E.n 5 rfl rfl rfl ?_
  refine zz_E.n 7 rfl rfl rfl ?_
  refine zz_E.kf 10 rfl (by rfl) (by decide) rfl ?_
  refine zz_E.n 11 rfl rfl rfl ?_
  refine zz_E.n 15 rfl rfl rfl ?_
  refine zz_E.ret rfl rfl rfl ?_
  refine zz_E.jf 7 rfl (by rfl) (by decide) rfl ?_
  refine zz_E.n 8 rfl rfl rfl ?_
  refine zz_E.cl (M' := zm_21) 11 rfl rfl (by decide) rfl rfl ⟨rfl, Nat.le_of_ble_eq_true rfl⟩ rfl ?_
  refine zz_E.n 1 rfl rfl rfl ?_
  refine zz_E.jf 4 rfl (by rfl) (by decide) rfl ?_
  refine zz_E.n 5 rfl rfl rfl ?_
  refine zz_E.n 7 rfl rfl rfl ?_
  refine zz_E.kf 10 rfl (by rfl) (by decide) rfl ?_
  refine zz_E.n 11 rfl rfl rfl ?_
  refine zz_E.n 15 rfl rfl rfl ?_
  refine zz_E.ret rfl rfl rfl ?_
  refine zz_E.jf 14 rfl (by rfl) (by decide) rfl ?_
  refine zz_E.n 15 rfl rfl rfl ?_
  refine zz_E.n 18 rfl rfl rfl ?_
  refine zz_E.n 19 rfl rfl rfl ?_
  refine zz_E.n 20 rfl rfl rfl ?_
  refine zz_E.cl (M' := zm_27) 23 rfl rfl (by decide) rfl rfl ⟨rfl, Nat.le_of_ble_eq_true rfl⟩ rfl ?_
  refine zz_E.n 1 rfl rfl rfl ?_
  refine zz_E.n 4 rfl rfl rfl ?_
  refine zz_E.n 5 rfl rfl rfl ?_
  refine zz_E.n 6 rfl rfl rfl ?_
  refine zz_E.n 7 rfl rfl rfl ?_
  refine zz_E.n 10 rfl rfl rfl ?_
  refine zz_E.n 11 rfl rfl rfl ?_
  refine zz_E.n 12 rfl rfl rfl ?_
  refine zz_E.kf 15 rfl (by rfl) (by decide) rfl ?_
  refine zz_E.n 16 rfl rfl rfl ?_
  refine zz_E.n 20 rfl rfl rfl ?_
  refine zz_E.n 21 rfl rfl rfl ?_
  refine zz_E.n 22 rfl rfl rfl ?_
  refine zz_E.n 24 rfl rfl rfl ?_
  refine zz_E.n 26 rfl rfl rfl ?_
  refine zz_E.n 27 rfl rfl rfl ?_
  refine zz_E.n 30 rfl rfl rfl ?_
  refine zz_E.n 31 rfl rfl rfl ?_
  refine zz_E.n 32 rfl rfl rfl ?_
  refine zz_E.kt 72 rfl (by rfl) (by decide) rfl ?_
  refine zz_E.n 73 rfl rfl rfl ?_
  refine zz_E.ret rfl rfl rfl ?_
  refine zz_E.jf 26 rfl (by rfl) (by decide) rfl ?_
  refine zz_E.n 27 rfl rfl rfl ?_
  refine zz_E.n 31 rfl rfl rfl ?_
  refine zz_E.ret rfl rfl rfl ?_
  refine zz_E.n 594 rfl rfl rfl ?_
  refine zz_E.n 595 rfl rfl rfl ?_
  refine zz_E.n 596 rfl rfl rfl ?_
  refine zz_E.n 597 rfl rfl rfl ?_
  refine zz_E.n 598 rfl rfl rfl ?_
  refine zz_E.n 599 rfl rfl rfl ?_
  refine zz_E.n 600 rfl rfl rfl ?_
  refine zz_E.n 601 rfl rfl rfl ?_
  refine zz_E.n 602 rfl rfl rfl ?_
  refine zz_E.n 603 rfl rfl rfl ?_
  refine zz_E.n 604 rfl rfl rfl ?_
  refine zz_E.cl (M' := zm_82) 607 rfl rfl (by decide) rfl rfl ⟨rfl, Nat.le_of_ble_eq_true rfl⟩ rfl ?_
  refine zz_E.n 1 rfl rfl rfl ?_
  refine zz_E.cl (M' := zm_73) 4 rfl rfl (by decide) rfl rfl ⟨rfl, Nat.le_of_ble_eq_true rfl⟩ rfl ?_
  refine zz_E.n 1 rfl rfl rfl ?_
  refine zz_E.jf 4 rfl (by rfl) (by decide) rfl ?_
  refine zz_E.n 5 rfl rfl rfl ?_
  refine zz_E.n 7 rfl rfl rfl ?_
  refine zz_E.kf 10 rfl (by rfl) (by decide) rfl ?_
  refine zz_E.n 11 rfl rfl rfl ?_
  refine zz_E.n 15 rfl rfl rfl ?_
  refine zz_E.ret rfl rfl rfl ?_
  refine zz_E.jf 7 rfl (by rfl) (by decide) rfl ?_
  refine zz_E.n 8 rfl rfl rfl ?_
  refine zz_E.cl (M' := zm_73) 11 rfl rfl (by decide) rfl rfl ⟨rfl, Nat.le_of_ble_eq_true rfl⟩ rfl ?_
  refine zz_E.n 1 rfl rfl rfl ?_
  refine zz_E.jf 4 rfl (by rfl) (by decide) rfl ?_
  refine zz_E.n 5 rfl rfl rfl ?_
  refine zz_E.n 7 rfl rfl rfl ?_
  refine zz_E.kf 10 rfl (by rfl) (by decide) rfl ?_
  refine zz_E.n 11 rfl rfl rfl ?_
  refine zz_E.n 15 rfl rfl rfl ?_
  refine zz_E.ret rfl rfl rfl ?_
  refine zz_E.jt 16 rfl (by rfl) (by decide) rfl ?_
  refine zz_E.n 19 rfl rfl rfl ?_
  refine zz_E.n 20 rfl rfl rfl ?_
  refine zz_E.n 21 rfl rfl rfl ?_
  refine zz_E.n 22 rfl rfl rfl ?_
  refine zz_E.n 25 rfl rfl rfl ?_
  refine zz_E.n 26 rfl rfl rfl ?_
  refine zz_E.n 27 rfl rfl rfl ?_
  refine zz_E.n 29 rfl rfl rfl ?_
  refine zz_E.n 30 rfl rfl rfl ?_
  refine zz_E.n 33 rfl rfl rfl ?_
  refine zz_E.n 34 rfl rfl rfl ?_
  refine zz_E.n 35 rfl rfl rfl ?_
  refine zz_E.jt 48 rfl (by rfl) (by decide) rfl ?_
  refine zz_E.n 49 rfl rfl rfl ?_
  refine zz_E.n 52 rfl rfl rfl ?_
  refine zz_E.n 53 rfl rfl rfl ?_
  refine zz_E.n 54 rfl rfl rfl ?_
  refine zz_E.n 55 rfl rfl rfl ?_
  refine zz_E.n 58 rfl rfl rfl ?_
  refine zz_E.n 60 rfl rfl rfl ?_
  refine zz_E.n 61 rfl rfl rfl ?_
  refine zz_E.kf 64 rfl (by rfl) (by decide) rfl ?_
  refine zz_E.n 65 rfl rfl rfl ?_
  refine zz_E.n 68 rfl rfl rfl ?_
  refine zz_E.n 69 rfl rfl rfl ?_
  refine zz_E.n 70 rfl rfl rfl ?_
  refine zz_E.jt 93 rfl (by rfl) (by decide) rfl ?_
  refine zz_E.n 94 rfl rfl rfl ?_
  refine zz_E.n 98 rfl rfl rfl ?_
  refine zz_E.ret rfl rfl rfl ?_
  refine zz_E.kt 652 rfl (by rfl) (by decide) rfl ?_
  refine zz_E.n 655 rfl rfl rfl ?_
  refine zz_E.n 18 rfl rfl rfl ?_
  refine zz_E.n 19 rfl rfl rfl ?_
  refine zz_E.n 20 rfl rfl rfl ?_
  refine zz_E.n 21 rfl rfl rfl ?_
  refine zz_E.n 23 rfl rfl rfl ?_
  refine zz_E.n 24 rfl rfl rfl ?_
  refine zz_E.kt 658 rfl (by rfl) (by decide) rfl ?_
  refine zz_E.n 659 rfl rfl rfl ?_
  refine zz_E.ret rfl rfl rfl ?_
  exact ⟨rfl, by decide +kernel, by decide +kernel⟩
set_option maxRecDepth 100000 in
set_option maxHeartbeats 8000000 in
theorem zv_k15_1_4 (xs : Nat → Int32) : zz_E zp_P zt_tf zt_fd (zt_X 6 (fun q => if q = 1 then nI 1 else if q = 2 then nI 4 else xs q)) 1000 zm_law 33 zv_L [.int (nI 15)] zv_h zv_Q := by
  refine zz_E.n 579 rfl rfl rfl ?_
  refine zz_E.n 580 rfl rfl rfl ?_
  refine zz_E.n 581 rfl rfl rfl ?_
  refine zz_E.n 582 rfl rfl rfl ?_
  refine zz_E.n 583 rfl rfl rfl ?_
  refine zz_E.n 584 rfl rfl rfl ?_
  refine zz_E.n 585 rfl rfl rfl ?_
  refine zz_E.n 586 rfl rfl rfl ?_
  refine zz_E.n 587 rfl rfl rfl ?_
  refine zz_E.n 588 rfl rfl rfl ?_
  refine zz_E.n 589 rfl rfl rfl ?_
  refine zz_E.n 590 rfl rfl rfl ?_
  refine zz_E.cl (M' := zm_17) 593 rfl rfl (by decide) rfl rfl ⟨rfl, Nat.le_of_ble_eq_true rfl⟩ rfl ?_
  refine zz_E.n 1 rfl rfl rfl ?_
  refine zz_E.cl (M' := zm_21) 4 rfl rfl (by decide) rfl rfl ⟨rfl, Nat.le_of_ble_eq_true rfl⟩ rfl ?_
  refine zz_E.n 1 rfl rfl rfl ?_
  refine zz_E.jf 4 rfl (by rfl) (by decide) rfl ?_
  refine zz_E.n 5 rfl rfl rfl ?_
  refine zz_E.n 7 rfl rfl rfl ?_
  refine zz_E.kf 10 rfl (by rfl) (by decide) rfl ?_
  refine zz_E.n 11 rfl rfl rfl ?_
  refine zz_E.n 15 rfl rfl rfl ?_
  refine zz_E.ret rfl rfl rfl ?_
  refine zz_E.jf 7 rfl (by rfl) (by decide) rfl ?_
  refine zz_E.n 8 rfl rfl rfl ?_
  refine zz_E.cl (M' := zm_21) 11 rfl rfl (by decide) rfl rfl ⟨rfl, Nat.le_of_ble_eq_true rfl⟩ rfl ?_
  refine zz_E.n 1 rfl rfl rfl ?_
  refine zz_E.jf 4 rfl (by rfl) (by decide) rfl ?_
  refine zz_E.n 5 rfl rfl rfl ?_
  refine zz_E.n 7 rfl rfl rfl ?_
  refine zz_E.kf 10 rfl (by rfl) (by decide) rfl ?_
  refine zz_E.n 11 rfl rfl rfl ?_
  refine zz_E.n 15 rfl rfl rfl ?_
  refine zz_E.ret rfl rfl rfl ?_
  refine zz_E.jf 14 rfl (by rfl) (by decide) rfl ?_
  refine zz_E.n 15 rfl rfl rfl ?_
  refine zz_E.n 18 rfl rfl rfl ?_
  refine zz_E.n 19 rfl rfl rfl ?_
  refine zz_E.n 20 rfl rfl rfl ?_
  refine zz_E.cl (M' := zm_27) 23 rfl rfl (by decide) rfl rfl ⟨rfl, Nat.le_of_ble_eq_true rfl⟩ rfl ?_
  refine zz_E.n 1 rfl rfl rfl ?_
  refine zz_E.n 4 rfl rfl rfl ?_
  refine zz_E.n 5 rfl rfl rfl ?_
  refine zz_E.n 6 rfl rfl rfl ?_
  refine zz_E.n 7 rfl rfl rfl ?_
  refine zz_E.n 10 rfl rfl rfl ?_
  refine zz_E.n 11 rfl rfl rfl ?_
  refine zz_E.n 12 rfl rfl rfl ?_
  refine zz_E.kf 15 rfl (by rfl) (by decide) rfl ?_
  refine zz_E.n 16 rfl rfl rfl ?_
  refine zz_E.n 20 rfl rfl rfl ?_
  refine zz_E.n 21 rfl rfl rfl ?_
  refine zz_E.n 22 rfl rfl rfl ?_
  refine zz_E.n 24 rfl rfl rfl ?_
  refine zz_E.n 26 rfl rfl rfl ?_
  refine zz_E.n 27 rfl rfl rfl ?_
  refine zz_E.n 30 rfl rfl rfl ?_
  refine zz_E.n 31 rfl rfl rfl ?_
  refine zz_E.n 32 rfl rfl rfl ?_
  refine zz_E.kt 72 rfl (by rfl) (by decide) rfl ?_
  refine zz_E.n 73 rfl rfl rfl ?_
  refine zz_E.ret rfl rfl rfl ?_
  refine zz_E.jf 26 rfl (by rfl) (by decide) rfl ?_
  refine zz_E.n 27 rfl rfl rfl ?_
  refine zz_E.n 31 rfl rfl rfl ?_
  refine zz_E.ret rfl rfl rfl ?_
  refine zz_E.n 594 rfl rfl rfl ?_
  refine zz_E.n 595 rfl rfl rfl ?_
  refine zz_E.n 596 rfl rfl rfl ?_
  refine zz_E.n 597 rfl rfl rfl ?_
  refine zz_E.n 598 rfl rfl rfl ?_
  refine zz_E.n 599 rfl rfl rfl ?_
  refine zz_E.n 600 rfl rfl rfl ?_
  refine zz_E.n 601 rfl rfl rfl ?_
  refine zz_E.n 602 rfl rfl rfl ?_
  refine zz_E.n 603 rfl rfl rfl ?_
  refine zz_E.n 604 rfl rfl rfl ?_
  refine zz_E.cl (M' := zm_82) 607 rfl rfl (by decide) rfl rfl ⟨rfl, Nat.le_of_ble_eq_true rfl⟩ rfl ?_
  refine zz_E.n 1 rfl rfl rfl ?_
  refine zz_E.cl (M' := zm_73) 4 rfl rfl (by decide) rfl rfl ⟨rfl, Nat.le_of_ble_eq_true rfl⟩ rfl ?_
  refine zz_E.n 1 rfl rfl rfl ?_
  refine zz_E.jf 4 rfl (by rfl) (by decide) rfl ?_
  refine zz_E.n 5 rfl rfl rfl ?_
  refine zz_E.n 7 rfl rfl rfl ?_
  refine zz_E.kf 10 rfl (by rfl) (by decide) rfl ?_
  refine zz_E.n 11 rfl rfl rfl ?_
  refine zz_E.n 15 rfl rfl rfl ?_
  refine zz_E.ret rfl rfl rfl ?_
  refine zz_E.jf 7 rfl (by rfl) (by decide) rfl ?_
  refine zz_E.n 8 rfl rfl rfl ?_
  refine zz_E.cl (M' := zm_73) 11 rfl rfl (by decide) rfl rfl ⟨rfl, Nat.le_of_ble_eq_true rfl⟩ rfl ?_
  refine zz_E.n 1 rfl rfl rfl ?_
  refine zz_E.jf 4 rfl (by rfl) (by decide) rfl ?_
  refine zz_E.n 5 rfl rfl rfl ?_
  refine zz_E.n 7 rfl rfl rfl ?_
  refine zz_E.kf 10 rfl (by rfl) (by decide) rfl ?_
  refine zz_E.n 11 rfl rfl rfl ?_
  refine zz_E.n 15 rfl rfl rfl ?_
  refine zz_E.ret rfl rfl rfl ?_
  refine zz_E.jt 16 rfl (by rfl) (by decide) rfl ?_
  refine zz_E.n 19 rfl rfl rfl ?_
  refine zz_E.n 20 rfl rfl rfl ?_
  refine zz_E.n 21 rfl rfl rfl ?_
  refine zz_E.n 22 rfl rfl rfl ?_
  refine zz_E.n 25 rfl rfl rfl ?_
  refine zz_E.n 26 rfl rfl rfl ?_
  refine zz_E.n 27 rfl rfl rfl ?_
  refine zz_E.n 29 rfl rfl rfl ?_
  refine zz_E.n 30 rfl rfl rfl ?_
  refine zz_E.n 33 rfl rfl rfl ?_
  refine zz_E.n 34 rfl rfl rfl ?_
  refine zz_E.n 35 rfl rfl rfl ?_
  refine zz_E.jt 48 rfl (by rfl) (by decide) rfl ?_
  refine zz_E.n 49 rfl rfl rfl ?_
  refine zz_E.n 52 rfl rfl rfl ?_
  refine zz_E.n 53 rfl rfl rfl ?_
  refine zz_E.n 54 rfl rfl rfl ?_
  refine zz_E.n 55 rfl rfl rfl ?_
  refine zz_E.n 58 rfl rfl rfl ?_
  refine zz_E.n 60 rfl rfl rfl ?_
  refine zz_E.n 61 rfl rfl rfl ?_
  refine zz_E.kf 64 rfl (by rfl) (by decide) rfl ?_
  refine zz_E.n 65 rfl rfl rfl ?_
  refine zz_E.n 68 rfl rfl rfl ?_
  refine zz_E.n 69 rfl rfl rfl ?_
  refine zz_E.n 70 rfl rfl rfl ?_
  refine zz_E.jt 93 rfl (by rfl) (by decide) rfl ?_
  refine zz_E.n 94 rfl rfl rfl ?_
  refine zz_E.n 98 rfl rfl rfl ?_
  refine zz_E.ret rfl rfl rfl ?_
  refine zz_E.kt 652 rfl (by rfl) (by decide) rfl ?_
  refine zz_E.n 655 rfl rfl rfl ?_
  refine zz_E.n 18 rfl rfl rfl ?_
  refine zz_E.n 19 rfl rfl rfl ?_
  refine zz_E.n 20 rfl rfl rfl ?_
  refine zz_E.n 21 rfl rfl rfl ?_
  refine zz_E.n 23 rfl rfl rfl ?_
  refine zz_E.n 24 rfl rfl rfl ?_
  refine zz_E.kt 658 rfl (by rfl) (by decide) rfl ?_
  refine zz_E.n 659 rfl rfl rfl ?_
  refine zz_E.ret rfl rfl rfl ?_
  exact ⟨rfl, by decide +kernel, by decide +kernel⟩
set_option maxRecDepth 100000 in
set_option maxHeartbeats 8000000 in
theorem zv_k15_1_5 (xs : Nat → Int32) : zz_E zp_P zt_tf zt_fd (zt_X 6 (fun q => if q = 1 then nI 1 else if q = 2 then nI 5 else xs q)) 1000 zm_law 33 zv_L [.int (nI 15)] zv_h zv_Q := by
  refine zz_E.n 579 rfl rfl rfl ?_
  refine zz_E.n 580 rfl rfl rfl ?_
  refine zz_E.n 581 rfl rfl rfl ?_
  refine zz_E.n 582 rfl rfl rfl ?_
  refine zz_E.n 583 rfl rfl rfl ?_
  refine zz_E.n 584 rfl rfl rfl ?_
  refine zz_E.n 585 rfl rfl rfl ?_
  refine zz_E.n 586 rfl rfl rfl ?_
  refine zz_E.n 587 rfl rfl rfl ?_
  refine zz_E.n 588 rfl rfl rfl ?_
  refine zz_E.n 589 rfl rfl rfl ?_
  refine zz_E.n 590 rfl rfl rfl ?_
  refine zz_E.cl (M' := zm_17) 593 rfl rfl (by decide) rfl rfl ⟨rfl, Nat.le_of_ble_eq_true rfl⟩ rfl ?_
  refine zz_E.n 1 rfl rfl rfl ?_
  refine zz_E.cl (M' := zm_21) 4 rfl rfl (by decide) rfl rfl ⟨rfl, Nat.le_of_ble_eq_true rfl⟩ rfl ?_
  refine zz_E.n 1 rfl rfl rfl ?_
  refine zz_E.jf 4 rfl (by rfl) (by decide) rfl ?_
  refine zz_E.n 5 rfl rfl rfl ?_
  refine zz_E.n 7 rfl rfl rfl ?_
  refine zz_E.kf 10 rfl (by rfl) (by decide) rfl ?_
  refine zz_E.n 11 rfl rfl rfl ?_
  refine zz_E.n 15 rfl rfl rfl ?_
  refine zz_E.ret rfl rfl rfl ?_
  refine zz_E.jf 7 rfl (by rfl) (by decide) rfl ?_
  refine zz_E.n 8 rfl rfl rfl ?_
  refine zz_E.cl (M' := zm_21) 11 rfl rfl (by decide) rfl rfl ⟨rfl, Nat.le_of_ble_eq_true rfl⟩ rfl ?_
  refine zz_E.n 1 rfl rfl rfl ?_
  refine zz_E.jf 4 rfl (by rfl) (by decide) rfl ?_
  refine zz_E.n 5 rfl rfl rfl ?_
  refine zz_E.n 7 rfl rfl rfl ?_
  refine zz_E.kf 10 rfl (by rfl) (by decide) rfl ?_
  refine zz_E.n 11 rfl rfl rfl ?_
  refine zz_E.n 15 rfl rfl rfl ?_
  refine zz_E.ret rfl rfl rfl ?_
  refine zz_E.jf 14 rfl (by rfl) (by decide) rfl ?_
  refine zz_E.n 15 rfl rfl rfl ?_
  refine zz_E.n 18 rfl rfl rfl ?_
  refine zz_E.n 19 rfl rfl rfl ?_
  refine zz_E.n 20 rfl rfl rfl ?_
  refine zz_E.cl (M' := zm_27) 23 rfl rfl (by decide) rfl rfl ⟨rfl, Nat.le_of_ble_eq_true rfl⟩ rfl ?_
  refine zz_E.n 1 rfl rfl rfl ?_
  refine zz_E.n 4 rfl rfl rfl ?_
  refine zz_E.n 5 rfl rfl rfl ?_
  refine zz_E.n 6 rfl rfl rfl ?_
  refine zz_E.n 7 rfl rfl rfl ?_
  refine zz_E.n 10 rfl rfl rfl ?_
  refine zz_E.n 11 rfl rfl rfl ?_
  refine zz_E.n 12 rfl rfl rfl ?_
  refine zz_E.kf 15 rfl (by rfl) (by decide) rfl ?_
  refine zz_E.n 16 rfl rfl rfl ?_
  refine zz_E.n 20 rfl rfl rfl ?_
  refine zz_E.n 21 rfl rfl rfl ?_
  refine zz_E.n 22 rfl rfl rfl ?_
  refine zz_E.n 24 rfl rfl rfl ?_
  refine zz_E.n 26 rfl rfl rfl ?_
  refine zz_E.n 27 rfl rfl rfl ?_
  refine zz_E.n 30 rfl rfl rfl ?_
  refine zz_E.n 31 rfl rfl rfl ?_
  refine zz_E.n 32 rfl rfl rfl ?_
  refine zz_E.kt 72 rfl (by rfl) (by decide) rfl ?_
  refine zz_E.n 73 rfl rfl rfl ?_
  refine zz_E.ret rfl rfl rfl ?_
  refine zz_E.jf 26 rfl (by rfl) (by decide) rfl ?_
  refine zz_E.n 27 rfl rfl rfl ?_
  refine zz_E.n 31 rfl rfl rfl ?_
  refine zz_E.ret rfl rfl rfl ?_
  refine zz_E.n 594 rfl rfl rfl ?_
  refine zz_E.n 595 rfl rfl rfl ?_
  refine zz_E.n 596 rfl rfl rfl ?_
  refine zz_E.n 597 rfl rfl rfl ?_
  refine zz_E.n 598 rfl rfl rfl ?_
  refine zz_E.n 599 rfl rfl rfl ?_
  refine zz_E.n 600 rfl rfl rfl ?_
  refine zz_E.n 601 rfl rfl rfl ?_
  refine zz_E.n 602 rfl rfl rfl ?_
  refine zz_E.n 603 rfl rfl rfl ?_
  refine zz_E.n 604 rfl rfl rfl ?_
  refine zz_E.cl (M' := zm_82) 607 rfl rfl (by decide) rfl rfl ⟨rfl, Nat.le_of_ble_eq_true rfl⟩ rfl ?_
  refine zz_E.n 1 rfl rfl rfl ?_
  refine zz_E.cl (M' := zm_73) 4 rfl rfl (by decide) rfl rfl ⟨rfl, Nat.le_of_ble_eq_true rfl⟩ rfl ?_
  refine zz_E.n 1 rfl rfl rfl ?_
  refine zz_E.jf 4 rfl (by rfl) (by decide) rfl ?_
  refine zz_E.n 5 rfl rfl rfl ?_
  refine zz_E.n 7 rfl rfl rfl ?_
  refine zz_E.kf 10 rfl (by rfl) (by decide) rfl ?_
  refine zz_E.n 11 rfl rfl rfl ?_
  refine zz_E.n 15 rfl rfl rfl ?_
  refine zz_E.ret rfl rfl rfl ?_
  refine zz_E.jf 7 rfl (by rfl) (by decide) rfl ?_
  refine zz_E.n 8 rfl rfl rfl ?_
  refine zz_E.cl (M' := zm_73) 11 rfl rfl (by decide) rfl rfl ⟨rfl, Nat.le_of_ble_eq_true rfl⟩ rfl ?_
  refine zz_E.n 1 rfl rfl rfl ?_
  refine zz_E.jf 4 rfl (by rfl) (by decide) rfl ?_
  refine zz_E.n 5 rfl rfl rfl ?_
  refine zz_E.n 7 rfl rfl rfl ?_
  refine zz_E.kf 10 rfl (by rfl) (by decide) rfl ?_
  refine zz_E.n 11 rfl rfl rfl ?_
  refine zz_E.n 15 rfl rfl rfl ?_
  refine zz_E.ret rfl rfl rfl ?_
  refine zz_E.jt 16 rfl (by rfl) (by decide) rfl ?_
  refine zz_E.n 19 rfl rfl rfl ?_
  refine zz_E.n 20 rfl rfl rfl ?_
  refine zz_E.n 21 rfl rfl rfl ?_
  refine zz_E.n 22 rfl rfl rfl ?_
  refine zz_E.n 25 rfl rfl rfl ?_
  refine zz_E.n 26 rfl rfl rfl ?_
  refine zz_E.n 27 rfl rfl rfl ?_
  refine zz_E.n 29 rfl rfl rfl ?_
  refine zz_E.n 30 rfl rfl rfl ?_
  refine zz_E.n 33 rfl rfl rfl ?_
  refine zz_E.n 34 rfl rfl rfl ?_
  refine zz_E.n 35 rfl rfl rfl ?_
  refine zz_E.jt 48 rfl (by rfl) (by decide) rfl ?_
  refine zz_E.n 49 rfl rfl rfl ?_
  refine zz_E.n 52 rfl rfl rfl ?_
  refine zz_E.n 53 rfl rfl rfl ?_
  refine zz_E.n 54 rfl rfl rfl ?_
  refine zz_E.n 55 rfl rfl rfl ?_
  refine zz_E.n 58 rfl rfl rfl ?_
  refine zz_E.n 60 rfl rfl rfl ?_
  refine zz_E.n 61 rfl rfl rfl ?_
  refine zz_E.kf 64 rfl (by rfl) (by decide) rfl ?_
  refine zz_E.n 65 rfl rfl rfl ?_
  refine zz_E.n 68 rfl rfl rfl ?_
  refine zz_E.n 69 rfl rfl rfl ?_
  refine zz_E.n 70 rfl rfl rfl ?_
  refine zz_E.jt 93 rfl (by rfl) (by decide) rfl ?_
  refine zz_E.n 94 rfl rfl rfl ?_
  refine zz_E.n 98 rfl rfl rfl ?_
  refine zz_E.ret rfl rfl rfl ?_
  refine zz_E.kt 652 rfl (by rfl) (by decide) rfl ?_
  refine zz_E.n 655 rfl rfl rfl ?_
  refine zz_E.n 18 rfl rfl rfl ?_
  refine zz_E.n 19 rfl rfl rfl ?_
  refine zz_E.n 20 rfl rfl rfl ?_
  refine zz_E.n 21 rfl rfl rfl ?_
  refine zz_E.n 23 rfl rfl rfl ?_
  refine zz_E.n 24 rfl rfl rfl ?_
  refine zz_E.kt 658 rfl (by rfl) (by decide) rfl ?_
  refine zz_E.n 659 rfl rfl rfl ?_
  refine zz_E.ret rfl rfl rfl ?_
  exact ⟨rfl, by decide +kernel, by decide +kernel⟩
set_option maxRecDepth 100000 in
set_option maxHeartbeats 8000000 in
theorem zv_k15_1_6 (xs : Nat → Int32) : zz_E zp_P zt_tf zt_fd (zt_X 6 (fun q => if q = 1 then nI 1 else if q = 2 then nI 6 else xs q)) 1000 zm_law 33 zv_L [.int (nI 15)] zv_h zv_Q := by
  refine zz_E.n 579 rfl rfl rfl ?_
  refine zz_E.n 580 rfl rfl rfl ?_
  refine zz_E.n 581 rfl rfl rfl ?_
  refine zz_E.n 582 rfl rfl rfl ?_
  refine zz_E.n 583 rfl rfl rfl ?_
  refine zz_E.n 584 rfl rfl rfl ?_
  refine zz_E.n 585 rfl rfl rfl ?_
  refine zz_E.n 586 rfl rfl rfl ?_
  refine zz_E.n 587 rfl rfl rfl ?_
  refine zz_E.n 588 rfl rfl rfl ?_
  refine zz_E.n 589 rfl rfl rfl ?_
  refine zz_E.n 590 rfl rfl rfl ?_
  refine zz_E.cl (M' := zm_17) 593 rfl rfl (by decide) rfl rfl ⟨rfl, Nat.le_of_ble_eq_true rfl⟩ rfl ?_
  refine zz_E.n 1 rfl rfl rfl ?_
  refine zz_E.cl (M' := zm_21) 4 rfl rfl (by decide) rfl rfl ⟨rfl, Nat.le_of_ble_eq_true rfl⟩ rfl ?_
  refine zz_E.n 1 rfl rfl rfl ?_
  refine zz_E.jf 4 rfl (by rfl) (by decide) rfl ?_
  refine zz_E.n 5 rfl rfl rfl ?_
  refine zz_E.n 7 rfl rfl rfl ?_
  refine zz_E.kf 10 rfl (by rfl) (by decide) rfl ?_
  refine zz_E.n 11 rfl rfl rfl ?_
  refine zz_E.n 15 rfl rfl rfl ?_
  refine zz_E.ret rfl rfl rfl ?_
  refine zz_E.jf 7 rfl (by rfl) (by decide) rfl ?_
  refine zz_E.n 8 rfl rfl rfl ?_
  refine zz_E.cl (M' := zm_21) 11 rfl rfl (by decide) rfl rfl ⟨rfl, Nat.le_of_ble_eq_true rfl⟩ rfl ?_
  refine zz_E.n 1 rfl rfl rfl ?_
  refine zz_E.jf 4 rfl (by rfl) (by decide) rfl ?_
  refine zz_E.n 5 rfl rfl rfl ?_
  refine zz_E.n 7 rfl rfl rfl ?_
  refine zz_E.kf 10 rfl (by rfl) (by decide) rfl ?_
  refine zz_E.n 11 rfl rfl rfl ?_
  refine zz_E.n 15 rfl rfl rfl ?_
  refine zz_E.ret rfl rfl rfl ?_
  refine zz_E.jf 14 rfl (by rfl) (by decide) rfl ?_
  refine zz_E.n 15 rfl rfl rfl ?_
  refine zz_E.n 18 rfl rfl rfl ?_
  refine zz_E.n 19 rfl rfl rfl ?_
  refine zz_E.n 20 rfl rfl rfl ?_
  refine zz_E.cl (M' := zm_27) 23 rfl rfl (by decide) rfl rfl ⟨rfl, Nat.le_of_ble_eq_true rfl⟩ rfl ?_
  refine zz_E.n 1 rfl rfl rfl ?_
  refine zz_E.n 4 rfl rfl rfl ?_
  refine zz_E.n 5 rfl rfl rfl ?_
  refine zz_E.n 6 rfl rfl rfl ?_
  refine zz_E.n 7 rfl rfl rfl ?_
  refine zz_E.n 10 rfl rfl rfl ?_
  refine zz_E.n 11 rfl rfl rfl ?_
  refine zz_E.n 12 rfl rfl rfl ?_
  refine zz_E.kf 15 rfl (by rfl) (by decide) rfl ?_
  refine zz_E.n 16 rfl rfl rfl ?_
  refine zz_E.n 20 rfl rfl rfl ?_
  refine zz_E.n 21 rfl rfl rfl ?_
  refine zz_E.n 22 rfl rfl rfl ?_
  refine zz_E.n 24 rfl rfl rfl ?_
  refine zz_E.n 26 rfl rfl rfl ?_
  refine zz_E.n 27 rfl rfl rfl ?_
  refine zz_E.n 30 rfl rfl rfl ?_
  refine zz_E.n 31 rfl rfl rfl ?_
  refine zz_E.n 32 rfl rfl rfl ?_
  refine zz_E.kt 72 rfl (by rfl) (by decide) rfl ?_
  refine zz_E.n 73 rfl rfl rfl ?_
  refine zz_E.ret rfl rfl rfl ?_
  refine zz_E.jf 26 rfl (by rfl) (by decide) rfl ?_
  refine zz_E.n 27 rfl rfl rfl ?_
  refine zz_E.n 31 rfl rfl rfl ?_
  refine zz_E.ret rfl rfl rfl ?_
  refine zz_E.n 594 rfl rfl rfl ?_
  refine zz_E.n 595 rfl rfl rfl ?_
  refine zz_E.n 596 rfl rfl rfl ?_
  refine zz_E.n 597 rfl rfl rfl ?_
  refine zz_E.n 598 rfl rfl rfl ?_
  refine zz_E.n 599 rfl rfl rfl ?_
  refine zz_E.n 600 rfl rfl rfl ?_
  refine zz_E.n 601 rfl rfl rfl ?_
  refine zz_E.n 602 rfl rfl rfl ?_
  refine zz_E.n 603 rfl rfl rfl ?_
  refine zz_E.n 604 rfl rfl rfl ?_
  refine zz_E.cl (M' := zm_82) 607 rfl rfl (by decide) rfl rfl ⟨rfl, Nat.le_of_ble_eq_true rfl⟩ rfl ?_
  refine zz_E.n 1 rfl rfl rfl ?_
  refine zz_E.cl (M' := zm_73) 4 rfl rfl (by decide) rfl rfl ⟨rfl, Nat.le_of_ble_eq_true rfl⟩ rfl ?_
  refine zz_E.n 1 rfl rfl rfl ?_
  refine zz_E.jf 4 rfl (by rfl) (by decide) rfl ?_
  refine zz_E.n 5 rfl rfl rfl ?_
  refine zz_E.n 7 rfl rfl rfl ?_
  refine zz_E.kf 10 rfl (by rfl) (by decide) rfl ?_
  refine zz_E.n 11 rfl rfl rfl ?_
  refine zz_E.n 15 rfl rfl rfl ?_
  refine zz_E.ret rfl rfl rfl ?_
  refine zz_E.jf 7 rfl (by rfl) (by decide) rfl ?_
  refine zz_E.n 8 rfl rfl rfl ?_
  refine zz_E.cl (M' := zm_73) 11 rfl rfl (by decide) rfl rfl ⟨rfl, Nat.le_of_ble_eq_true rfl⟩ rfl ?_
  refine zz_E.n 1 rfl rfl rfl ?_
  refine zz_E.jf 4 rfl (by rfl) (by decide) rfl ?_
  refine zz_E.n 5 rfl rfl rfl ?_
  refine zz_E.n 7 rfl rfl rfl ?_
  refine zz_E.kf 10 rfl (by rfl) (by decide) rfl ?_
  refine zz_E.n 11 rfl rfl rfl ?_
  refine zz_E.n 15 rfl rfl rfl ?_
  refine zz_E.ret rfl rfl rfl ?_
  refine zz_E.jt 16 rfl (by rfl) (by decide) rfl ?_
  refine zz_E.n 19 rfl rfl rfl ?_
  refine zz_E.n 20 rfl rfl rfl ?_
  refine zz_E.n 21 rfl rfl rfl ?_
  refine zz_E.n 22 rfl rfl rfl ?_
  refine zz_E.n 25 rfl rfl rfl ?_
  refine zz_E.n 26 rfl rfl rfl ?_
  refine zz_E.n 27 rfl rfl rfl ?_
  refine zz_E.n 29 rfl rfl rfl ?_
  refine zz_E.n 30 rfl rfl rfl ?_
  refine zz_E.n 33 rfl rfl rfl ?_
  refine zz_E.n 34 rfl rfl rfl ?_
  refine zz_E.n 35 rfl rfl rfl ?_
  refine zz_E.jt 48 rfl (by rfl) (by decide) rfl ?_
  refine zz_E.n 49 rfl rfl rfl ?_
  refine zz_E.n 52 rfl rfl rfl ?_
  refine zz_E.n 53 rfl rfl rfl ?_
  refine zz_E.n 54 rfl rfl rfl ?_
  refine zz_E.n 55 rfl rfl rfl ?_
  refine zz_E.n 58 rfl rfl rfl ?_
  refine zz_E.n 60 rfl rfl rfl ?_
  refine zz_E.n 61 rfl rfl rfl ?_
  refine zz_E.kf 64 rfl (by rfl) (by decide) rfl ?_
  refine zz_E.n 65 rfl rfl rfl ?_
  refine zz_E.n 68 rfl rfl rfl ?_
  refine zz_E.n 69 rfl rfl rfl ?_
  refine zz_E.n 70 rfl rfl rfl ?_
  refine zz_E.jt 93 rfl (by rfl) (by decide) rfl ?_
  refine zz_E.n 94 rfl rfl rfl ?_
  refine zz_E.n 98 rfl rfl rfl ?_
  refine zz_E.ret rfl rfl rfl ?_
  refine zz_E.kt 652 rfl (by rfl) (by decide) rfl ?_
  refine zz_E.n 655 rfl rfl rfl ?_
  refine zz_E.n 18 rfl rfl rfl ?_
  refine zz_E.n 19 rfl rfl rfl ?_
  refine zz_E.n 20 rfl rfl rfl ?_
  refine zz_E.n 21 rfl rfl rfl ?_
  refine zz_E.n 23 rfl rfl rfl ?_
  refine zz_E.n 24 rfl rfl rfl ?_
  refine zz_E.kt 658 rfl (by rfl) (by decide) rfl ?_
  refine zz_E.n 659 rfl rfl rfl ?_
  refine zz_E.ret rfl rfl rfl ?_
  exact ⟨rfl, by decide +kernel, by decide +kernel⟩
set_option maxRecDepth 100000 in
set_option maxHeartbeats 8000000 in
theorem zv_k15_1_7 (xs : Nat → Int32) : zz_E zp_P zt_tf zt_fd (zt_X 6 (fun q => if q = 1 then nI 1 else if q = 2 then nI 7 else xs q)) 1000 zm_law 33 zv_L [.int (nI 15)] zv_h zv_Q := by
  refine zz_E.n 579 rfl rfl rfl ?_
  refine zz_E.n 580 rfl rfl rfl ?_
  refine zz_E.n 581 rfl rfl rfl ?_
  refine zz_E.n 582 rfl rfl rfl ?_
  refine zz_E.n 583 rfl rfl rfl ?_
  refine zz_E.n 584 rfl rfl rfl ?_
  refine zz_E.n 585 rfl rfl rfl ?_
  refine zz_E.n 586 rfl rfl rfl ?_
  refine zz_E.n 587 rfl rfl rfl ?_
  refine zz_E.n 588 rfl rfl rfl ?_
  refine zz_E.n 589 rfl rfl rfl ?_
  refine zz_E.n 590 rfl rfl rfl ?_
  refine zz_E.cl (M' := zm_17) 593 rfl rfl (by decide) rfl rfl ⟨rfl, Nat.le_of_ble_eq_true rfl⟩ rfl ?_
  refine zz_E.n 1 rfl rfl rfl ?_
  refine zz_E.cl (M' := zm_21) 4 rfl rfl (by decide) rfl rfl ⟨rfl, Nat.le_of_ble_eq_true rfl⟩ rfl ?_
  refine zz_E.n 1 rfl rfl rfl ?_
  refine zz_E.jf 4 rfl (by rfl) (by decide) rfl ?_
  refine zz_E.n 5 rfl rfl rfl ?_
  refine zz_E.n 7 rfl rfl rfl ?_
  refine zz_E.kf 10 rfl (by rfl) (by decide) rfl ?_
  refine zz_E.n 11 rfl rfl rfl ?_
  refine zz_E.n 15 rfl rfl rfl ?_
  refine zz_E.ret rfl rfl rfl ?_
  refine zz_E.jf 7 rfl (by rfl) (by decide) rfl ?_
  refine zz_E.n 8 rfl rfl rfl ?_
  refine zz_E.cl (M' := zm_21) 11 rfl rfl (by decide) rfl rfl ⟨rfl, Nat.le_of_ble_eq_true rfl⟩ rfl ?_
  refine zz_E.n 1 rfl rfl rfl ?_
  refine zz_E.jf 4 rfl (by rfl) (by decide) rfl ?_
  refine zz_E.n 5 rfl rfl rfl ?_
  refine zz_E.n 7 rfl rfl rfl ?_
  refine zz_E.kf 10 rfl (by rfl) (by decide) rfl ?_
  refine zz_E.n 11 rfl rfl rfl ?_
  refine zz_E.n 15 rfl rfl rfl ?_
  refine zz_E.ret rfl rfl rfl ?_
  refine zz_E.jf 14 rfl (by rfl) (by decide) rfl ?_
  refine zz_E.n 15 rfl rfl rfl ?_
  refine zz_E.n 18 rfl rfl rfl ?_
  refine zz_E.n 19 rfl rfl rfl ?_
  refine zz_E.n 20 rfl rfl rfl ?_
  refine zz_E.cl (M' := zm_27) 23 rfl rfl (by decide) rfl rfl ⟨rfl, Nat.le_of_ble_eq_true rfl⟩ rfl ?_
  refine zz_E.n 1 rfl rfl rfl ?_
  refine zz_E.n 4 rfl rfl rfl ?_
  refine zz_E.n 5 rfl rfl rfl ?_
  refine zz_E.n 6 rfl rfl rfl ?_
  refine zz_E.n 7 rfl rfl rfl ?_
  refine zz_E.n 10 rfl rfl rfl ?_
  refine zz_E.n 11 rfl rfl rfl ?_
  refine zz_E.n 12 rfl rfl rfl ?_
  refine zz_E.kf 15 rfl (by rfl) (by decide) rfl ?_
  refine zz_E.n 16 rfl rfl rfl ?_
  refine zz_E.n 20 rfl rfl rfl ?_
  refine zz_E.n 21 rfl rfl rfl ?_
  refine zz_E.n 22 rfl rfl rfl ?_
  refine zz_E.n 24 rfl rfl rfl ?_
  refine zz_E.n 26 rfl rfl rfl ?_
  refine zz_E.n 27 rfl rfl rfl ?_
  refine zz_E.n 30 rfl rfl rfl ?_
  refine zz_E.n 31 rfl rfl rfl ?_
  refine zz_E.n 32 rfl rfl rfl ?_
  refine zz_E.kt 72 rfl (by rfl) (by decide) rfl ?_
  refine zz_E.n 73 rfl rfl rfl ?_
  refine zz_E.ret rfl rfl rfl ?_
  refine zz_E.jf 26 rfl (by rfl) (by decide) rfl ?_
  refine zz_E.n 27 rfl rfl rfl ?_
  refine zz_E.n 31 rfl rfl rfl ?_
  refine zz_E.ret rfl rfl rfl ?_
  refine zz_E.n 594 rfl rfl rfl ?_
  refine zz_E.n 595 rfl rfl rfl ?_
  refine zz_E.n 596 rfl rfl rfl ?_
  refine zz_E.n 597 rfl rfl rfl ?_
  refine zz_E.n 598 rfl rfl rfl ?_
  refine zz_E.n 599 rfl rfl rfl ?_
  refine zz_E.n 600 rfl rfl rfl ?_
  refine zz_E.n 601 rfl rfl rfl ?_
  refine zz_E.n 602 rfl rfl rfl ?_
  refine zz_E.n 603 rfl rfl rfl ?_
  refine zz_E.n 604 rfl rfl rfl ?_
  refine zz_E.cl (M' := zm_82) 607 rfl rfl (by decide) rfl rfl ⟨rfl, Nat.le_of_ble_eq_true rfl⟩ rfl ?_
  refine zz_E.n 1 rfl rfl rfl ?_
  refine zz_E.cl (M' := zm_73) 4 rfl rfl (by decide) rfl rfl ⟨rfl, Nat.le_of_ble_eq_true rfl⟩ rfl ?_
  refine zz_E.n 1 rfl rfl rfl ?_
  refine zz_E.jf 4 rfl (by rfl) (by decide) rfl ?_
  refine zz_E.n 5 rfl rfl rfl ?_
  refine zz_E.n 7 rfl rfl rfl ?_
  refine zz_E.kf 10 rfl (by rfl) (by decide) rfl ?_
  refine zz_E.n 11 rfl rfl rfl ?_
  refine zz_E.n 15 rfl rfl rfl ?_
  refine zz_E.ret rfl rfl rfl ?_
  refine zz_E.jf 7 rfl (by rfl) (by decide) rfl ?_
  refine zz_E.n 8 rfl rfl rfl ?_
  refine zz_E.cl (M' := zm_73) 11 rfl rfl (by decide) rfl rfl ⟨rfl, Nat.le_of_ble_eq_true rfl⟩ rfl ?_
  refine zz_E.n 1 rfl rfl rfl ?_
  refine zz_E.jf 4 rfl (by rfl) (by decide) rfl ?_
  refine zz_E.n 5 rfl rfl rfl ?_
  refine zz_E.n 7 rfl rfl rfl ?_
  refine zz_E.kf 10 rfl (by rfl) (by decide) rfl ?_
  refine zz_E.n 11 rfl rfl rfl ?_
  refine zz_E.n 15 rfl rfl rfl ?_
  refine zz_E.ret rfl rfl rfl ?_
  refine zz_E.jt 16 rfl (by rfl) (by decide) rfl ?_
  refine zz_E.n 19 rfl rfl rfl ?_
  refine zz_E.n 20 rfl rfl rfl ?_
  refine zz_E.n 21 rfl rfl rfl ?_
  refine zz_E.n 22 rfl rfl rfl ?_
  refine zz_E.n 25 rfl rfl rfl ?_
  refine zz_E.n 26 rfl rfl rfl ?_
  refine zz_E.n 27 rfl rfl rfl ?_
  refine zz_E.n 29 rfl rfl rfl ?_
  refine zz_E.n 30 rfl rfl rfl ?_
  refine zz_E.n 33 rfl rfl rfl ?_
  refine zz_E.n 34 rfl rfl rfl ?_
  refine zz_E.n 35 rfl rfl rfl ?_
  refine zz_E.jt 48 rfl (by rfl) (by decide) rfl ?_
  refine zz_E.n 49 rfl rfl rfl ?_
  refine zz_E.n 52 rfl rfl rfl ?_
  refine zz_E.n 53 rfl rfl rfl ?_
  refine zz_E.n 54 rfl rfl rfl ?_
  refine zz_E.n 55 rfl rfl rfl ?_
  refine zz_E.n 58 rfl rfl rfl ?_
  refine zz_E.n 60 rfl rfl rfl ?_
  refine zz_E.n 61 rfl rfl rfl ?_
  refine zz_E.kf 64 rfl (by rfl) (by decide) rfl ?_
  refine zz_E.n 65 rfl rfl rfl ?_
  refine zz_E.n 68 rfl rfl rfl ?_
  refine zz_E.n 69 rfl rfl rfl ?_
  refine zz_E.n 70 rfl rfl rfl ?_
  refine zz_E.jt 93 rfl (by rfl) (by decide) rfl ?_
  refine zz_E.n 94 rfl rfl rfl ?_
  refine zz_E.n 98 rfl rfl rfl ?_
  refine zz_E.ret rfl rfl rfl ?_
  refine zz_E.kt 652 rfl (by rfl) (by decide) rfl ?_
  refine zz_E.n 655 rfl rfl rfl ?_
  refine zz_E.n 18 rfl rfl rfl ?_
  refine zz_E.n 19 rfl rfl rfl ?_
  refine zz_E.n 20 rfl rfl rfl ?_
  refine zz_E.n 21 rfl rfl rfl ?_
  refine zz_E.n 23 rfl rfl rfl ?_
  refine zz_E.n 24 rfl rfl rfl ?_
  refine zz_E.kt 658 rfl (by rfl) (by decide) rfl ?_
  refine zz_E.n 659 rfl rfl rfl ?_
  refine zz_E.ret rfl rfl rfl ?_
  exact ⟨rfl, by decide +kernel, by decide +kernel⟩
set_option maxRecDepth 100000 in
set_option maxHeartbeats 8000000 in
theorem zv_k15_2_0 (xs : Nat → Int32) : zz_E zp_P zt_tf zt_fd (zt_X 6 (fun q => if q = 1 then nI 2 else if q = 2 then nI 0 else xs q)) 1000 zm_law 33 zv_L [.int (nI 15)] zv_h zv_Q := by
  refine zz_E.n 579 rfl rfl rfl ?_
  refine zz_E.n 580 rfl rfl rfl ?_
  refine zz_E.n 581 rfl rfl rfl ?_
  refine zz_E.n 582 rfl rfl rfl ?_
  refine zz_E.n 583 rfl rfl rfl ?_
  refine zz_E.n 584 rfl rfl rfl ?_
  refine zz_E.n 585 rfl rfl rfl ?_
  refine zz_E.n 586 rfl rfl rfl ?_
  refine zz_E.n 587 rfl rfl rfl ?_
  refine zz_E.n 588 rfl rfl rfl ?_
  refine zz_E.n 589 rfl rfl rfl ?_
  refine zz_E.n 590 rfl rfl rfl ?_
  refine zz_E.cl (M' := zm_17) 593 rfl rfl (by decide) rfl rfl ⟨rfl, Nat.le_of_ble_eq_true rfl⟩ rfl ?_
  refine zz_E.n 1 rfl rfl rfl ?_
  refine zz_E.cl (M' := zm_21) 4 rfl rfl (by decide) rfl rfl ⟨rfl, Nat.le_of_ble_eq_true rfl⟩ rfl ?_
  refine zz_E.n 1 rfl rfl rfl ?_
  refine zz_E.jf 4 rfl (by rfl) (by decide) rfl ?_
  refine zz_E.n 5 rfl rfl rfl ?_
  refine zz_E.n 7 rfl rfl rfl ?_
  refine zz_E.kf 10 rfl (by rfl) (by decide) rfl ?_
  refine zz_E.n 11 rfl rfl rfl ?_
  refine zz_E.n 15 rfl rfl rfl ?_
  refine zz_E.ret rfl rfl rfl ?_
  refine zz_E.jf 7 rfl (by rfl) (by decide) rfl ?_
  refine zz_E.n 8 rfl rfl rfl ?_
  refine zz_E.cl (M' := zm_21) 11 rfl rfl (by decide) rfl rfl ⟨rfl, Nat.le_of_ble_eq_true rfl⟩ rfl ?_
  refine zz_E.n 1 rfl rfl rfl ?_
  refine zz_E.jf 4 rfl (by rfl) (by decide) rfl ?_
  refine zz_E.n 5 rfl rfl rfl ?_
  refine zz_E.n 7 rfl rfl rfl ?_
  refine zz_E.kf 10 rfl (by rfl) (by decide) rfl ?_
  refine zz_E.n 11 rfl rfl rfl ?_
  refine zz_E.n 15 rfl rfl rfl ?_
  refine zz_E.ret rfl rfl rfl ?_
  refine zz_E.jf 14 rfl (by rfl) (by decide) rfl ?_
  refine zz_E.n 15 rfl rfl rfl ?_
  refine zz_E.n 18 rfl rfl rfl ?_
  refine zz_E.n 19 rfl rfl rfl ?_
  refine zz_E.n 20 rfl rfl rfl ?_
  refine zz_E.cl (M' := zm_27) 23 rfl rfl (by decide) rfl rfl ⟨rfl, Nat.le_of_ble_eq_true rfl⟩ rfl ?_
  refine zz_E.n 1 rfl rfl rfl ?_
  refine zz_E.n 4 rfl rfl rfl ?_
  refine zz_E.n 5 rfl rfl rfl ?_
  refine zz_E.n 6 rfl rfl rfl ?_
  refine zz_E.n 7 rfl rfl rfl ?_
  refine zz_E.n 10 rfl rfl rfl ?_
  refine zz_E.n 11 rfl rfl rfl ?_
  refine zz_E.n 12 rfl rfl rfl ?_
  refine zz_E.kf 15 rfl (by rfl) (by decide) rfl ?_
  refine zz_E.n 16 rfl rfl rfl ?_
  refine zz_E.n 20 rfl rfl rfl ?_
  refine zz_E.n 21 rfl rfl rfl ?_
  refine zz_E.n 22 rfl rfl rfl ?_
  refine zz_E.n 24 rfl rfl rfl ?_
  refine zz_E.n 26 rfl rfl rfl ?_
  refine zz_E.n 27 rfl rfl rfl ?_
  refine zz_E.n 30 rfl rfl rfl ?_
  refine zz_E.n 31 rfl rfl rfl ?_
  refine zz_E.n 32 rfl rfl rfl ?_
  refine zz_E.kt 72 rfl (by rfl) (by decide) rfl ?_
  refine zz_E.n 73 rfl rfl rfl ?_
  refine zz_E.ret rfl rfl rfl ?_
  refine zz_E.jf 26 rfl (by rfl) (by decide) rfl ?_
  refine zz_E.n 27 rfl rfl rfl ?_
  refine zz_E.n 31 rfl rfl rfl ?_
  refine zz_E.ret rfl rfl rfl ?_
  refine zz_E.n 594 rfl rfl rfl ?_
  refine zz_E.n 595 rfl rfl rfl ?_
  refine zz_E.n 596 rfl rfl rfl ?_
  refine zz_E.n 597 rfl rfl rfl ?_
  refine zz_E.n 598 rfl rfl rfl ?_
  refine zz_E.n 599 rfl rfl rfl ?_
  refine zz_E.n 600 rfl rfl rfl ?_
  refine zz_E.n 601 rfl rfl rfl ?_
  refine zz_E.n 602 rfl rfl rfl ?_
  refine zz_E.n 603 rfl rfl rfl ?_
  refine zz_E.n 604 rfl rfl rfl ?_
  refine zz_E.cl (M' := zm_82) 607 rfl rfl (by decide) rfl rfl ⟨rfl, Nat.le_of_ble_eq_true rfl⟩ rfl ?_
  refine zz_E.n 1 rfl rfl rfl ?_
  refine zz_E.cl (M' := zm_73) 4 rfl rfl (by decide) rfl rfl ⟨rfl, Nat.le_of_ble_eq_true rfl⟩ rfl ?_
  refine zz_E.n 1 rfl rfl rfl ?_
  refine zz_E.jf 4 rfl (by rfl) (by decide) rfl ?_
  refine zz_E.n 5 rfl rfl rfl ?_
  refine zz_E.n 7 rfl rfl rfl ?_
  refine zz_E.kf 10 rfl (by rfl) (by decide) rfl ?_
  refine zz_E.n 11 rfl rfl rfl ?_
  refine zz_E.n 15 rfl rfl rfl ?_
  refine zz_E.ret rfl rfl rfl ?_
  refine zz_E.jf 7 rfl (by rfl) (by decide) rfl ?_
  refine zz_E.n 8 rfl rfl rfl ?_
  refine zz_E.cl (M' := zm_73) 11 rfl rfl (by decide) rfl rfl ⟨rfl, Nat.le_of_ble_eq_true rfl⟩ rfl ?_
  refine zz_E.n 1 rfl rfl rfl ?_
  refine zz_E.jf 4 rfl (by rfl) (by decide) rfl ?_
  refine zz_E.n 5 rfl rfl rfl ?_
  refine zz_E.n 7 rfl rfl rfl ?_
  refine zz_E.kf 10 rfl (by rfl) (by decide) rfl ?_
  refine zz_E.n 11 rfl rfl rfl ?_
  refine zz_E.n 15 rfl rfl rfl ?_
  refine zz_E.ret rfl rfl rfl ?_
  refine zz_E.jt 16 rfl (by rfl) (by decide) rfl ?_
  refine zz_E.n 19 rfl rfl rfl ?_
  refine zz_E.n 20 rfl rfl rfl ?_
  refine zz_E.n 21 rfl rfl rfl ?_
  refine zz_E.n 22 rfl rfl rfl ?_
  refine zz_E.n 25 rfl rfl rfl ?_
  refine zz_E.n 26 rfl rfl rfl ?_
  refine zz_E.n 27 rfl rfl rfl ?_
  refine zz_E.n 29 rfl rfl rfl ?_
  refine zz_E.n 30 rfl rfl rfl ?_
  refine zz_E.n 33 rfl rfl rfl ?_
  refine zz_E.n 34 rfl rfl rfl ?_
  refine zz_E.n 35 rfl rfl rfl ?_
  refine zz_E.jt 48 rfl (by rfl) (by decide) rfl ?_
  refine zz_E.n 49 rfl rfl rfl ?_
  refine zz_E.n 52 rfl rfl rfl ?_
  refine zz_E.n 53 rfl rfl rfl ?_
  refine zz_E.n 54 rfl rfl rfl ?_
  refine zz_E.n 55 rfl rfl rfl ?_
  refine zz_E.n 58 rfl rfl rfl ?_
  refine zz_E.n 60 rfl rfl rfl ?_
  refine zz_E.n 61 rfl rfl rfl ?_
  refine zz_E.kf 64 rfl (by rfl) (by decide) rfl ?_
  refine zz_E.n 65 rfl rfl rfl ?_
  refine zz_E.n 68 rfl rfl rfl ?_
  refine zz_E.n 69 rfl rfl rfl ?_
  refine zz_E.n 70 rfl rfl rfl ?_
  refine zz_E.jt 93 rfl (by rfl) (by decide) rfl ?_
  refine zz_E.n 94 rfl rfl rfl ?_
  refine zz_E.n 98 rfl rfl rfl ?_
  refine zz_E.ret rfl rfl rfl ?_
  refine zz_E.kt 652 rfl (by rfl) (by decide) rfl ?_
  refine zz_E.n 655 rfl rfl rfl ?_
  refine zz_E.n 18 rfl rfl rfl ?_
  refine zz_E.n 19 rfl rfl rfl ?_
  refine zz_E.n 20 rfl rfl rfl ?_
  refine zz_E.n 21 rfl rfl rfl ?_
  refine zz_E.n 23 rfl rfl rfl ?_
  refine zz_E.n 24 rfl rfl rfl ?_
  refine zz_E.kt 658 rfl (by rfl) (by decide) rfl ?_
  refine zz_E.n 659 rfl rfl rfl ?_
  refine zz_E.ret rfl rfl rfl ?_
  exact ⟨rfl, by decide +kernel, by decide +kernel⟩
set_option maxRecDepth 100000 in
set_option maxHeartbeats 8000000 in
theorem zv_k15_2_1 (xs : Nat → Int32) : zz_E zp_P zt_tf zt_fd (zt_X 6 (fun q => if q = 1 then nI 2 else if q = 2 then nI 1 else xs q)) 1000 zm_law 33 zv_L [.int (nI 15)] zv_h zv_Q := by
  refine zz_E.n 579 rfl rfl rfl ?_
  refine zz_E.n 580 rfl rfl rfl ?_
  refine zz_E.n 581 rfl rfl rfl ?_
  refine zz_E.n 582 rfl rfl rfl ?_
  refine zz_E.n 583 rfl rfl rfl ?_
  refine zz_E.n 584 rfl rfl rfl ?_
  refine zz_E.n 585 rfl rfl rfl ?_
  refine zz_E.n 586 rfl rfl rfl ?_
  refine zz_E.n 587 rfl rfl rfl ?_
  refine zz_E.n 588 rfl rfl rfl ?_
  refine zz_E.n 589 rfl rfl rfl ?_
  refine zz_E.n 590 rfl rfl rfl ?_
  refine zz_E.cl (M' := zm_17) 593 rfl rfl (by decide) rfl rfl ⟨rfl, Nat.le_of_ble_eq_true rfl⟩ rfl ?_
  refine zz_E.n 1 rfl rfl rfl ?_
  refine zz_E.cl (M' := zm_21) 4 rfl rfl (by decide) rfl rfl ⟨rfl, Nat.le_of_ble_eq_true rfl⟩ rfl ?_
  refine zz_E.n 1 rfl rfl rfl ?_
  refine zz_E.jf 4 rfl (by rfl) (by decide) rfl ?_
  refine zz_E.n 5 rfl rfl rfl ?_
  refine zz_E.n 7 rfl rfl rfl ?_
  refine zz_E.kf 10 rfl (by rfl) (by decide) rfl ?_
  refine zz_E.n 11 rfl rfl rfl ?_
  refine zz_E.n 15 rfl rfl rfl ?_
  refine zz_E.ret rfl rfl rfl ?_
  refine zz_E.jf 7 rfl (by rfl) (by decide) rfl ?_
  refine zz_E.n 8 rfl rfl rfl ?_
  refine zz_E.cl (M' := zm_21) 11 rfl rfl (by decide) rfl rfl ⟨rfl, Nat.le_of_ble_eq_true rfl⟩ rfl ?_
  refine zz_E.n 1 rfl rfl rfl ?_
  refine zz_E.jf 4 rfl (by rfl) (by decide) rfl ?_
  refine zz_E.n 5 rfl rfl rfl ?_
  refine zz_E.n 7 rfl rfl rfl ?_
  refine zz_E.kf 10 rfl (by rfl) (by decide) rfl ?_
  refine zz_E.n 11 rfl rfl rfl ?_
  refine zz_E.n 15 rfl rfl rfl ?_
  refine zz_E.ret rfl rfl rfl ?_
  refine zz_E.jf 14 rfl (by rfl) (by decide) rfl ?_
  refine zz_E.n 15 rfl rfl rfl ?_
  refine zz_E.n 18 rfl rfl rfl ?_
  refine zz_E.n 19 rfl rfl rfl ?_
  refine zz_E.n 20 rfl rfl rfl ?_
  refine zz_E.cl (M' := zm_27) 23 rfl rfl (by decide) rfl rfl ⟨rfl, Nat.le_of_ble_eq_true rfl⟩ rfl ?_
  refine zz_E.n 1 rfl rfl rfl ?_
  refine zz_E.n 4 rfl rfl rfl ?_
  refine zz_E.n 5 rfl rfl rfl ?_
  refine zz_E.n 6 rfl rfl rfl ?_
  refine zz_E.n 7 rfl rfl rfl ?_
  refine zz_E.n 10 rfl rfl rfl ?_
  refine zz_E.n 11 rfl rfl rfl ?_
  refine zz_E.n 12 rfl rfl rfl ?_
  refine zz_E.kf 15 rfl (by rfl) (by decide) rfl ?_
  refine zz_E.n 16 rfl rfl rfl ?_
  refine zz_E.n 20 rfl rfl rfl ?_
  refine zz_E.n 21 rfl rfl rfl ?_
  refine zz_E.n 22 rfl rfl rfl ?_
  refine zz_E.n 24 rfl rfl rfl ?_
  refine zz_E.n 26 rfl rfl rfl ?_
  refine zz_E.n 27 rfl rfl rfl ?_
  refine zz_E.n 30 rfl rfl rfl ?_
  refine zz_E.n 31 rfl rfl rfl ?_
  refine zz_E.n 32 rfl rfl rfl ?_
  refine zz_E.kt 72 rfl (by rfl) (by decide) rfl ?_
  refine zz_E.n 73 rfl rfl rfl ?_
  refine zz_E.ret rfl rfl rfl ?_
  refine zz_E.jf 26 rfl (by rfl) (by decide) rfl ?_
  refine zz_E.n 27 rfl rfl rfl ?_
  refine zz_E.n 31 rfl rfl rfl ?_
  refine zz_E.ret rfl rfl rfl ?_
  refine zz_E.n 594 rfl rfl rfl ?_
  refine zz_E.n 595 rfl rfl rfl ?_
  refine zz_E.n 596 rfl rfl rfl ?_
  refine zz_E.n 597 rfl rfl rfl ?_
  refine zz_E.n 598 rfl rfl rfl ?_
  refine zz_E.n 599 rfl rfl rfl ?_
  refine zz_E.n 600 rfl rfl rfl ?_
  refine zz_E.n 601 rfl rfl rfl ?_
  refine zz_E.n 602 rfl rfl rfl ?_
  refine zz_E.n 603 rfl rfl rfl ?_
  refine zz_E.n 604 rfl rfl rfl ?_
  refine zz_E.cl (M' := zm_82) 607 rfl rfl (by decide) rfl rfl ⟨rfl, Nat.le_of_ble_eq_true rfl⟩ rfl ?_
  refine zz_E.n 1 rfl rfl rfl ?_
  refine zz_E.cl (M' := zm_73) 4 rfl rfl (by decide) rfl rfl ⟨rfl, Nat.le_of_ble_eq_true rfl⟩ rfl ?_
  refine zz_E.n 1 rfl rfl rfl ?_
  refine zz_E.jf 4 rfl (by rfl) (by decide) rfl ?_
  refine zz_E.n 5 rfl rfl rfl ?_
  refine zz_E.n 7 rfl rfl rfl ?_
  refine zz_E.kf 10 rfl (by rfl) (by decide) rfl ?_
  refine zz_E.n 11 rfl rfl rfl ?_
  refine zz_E.n 15 rfl rfl rfl ?_
  refine zz_E.ret rfl rfl rfl ?_
  refine zz_E.jf 7 rfl (by rfl) (by decide) rfl ?_
  refine zz_E.n 8 rfl rfl rfl ?_
  refine zz_E.cl (M' := zm_73) 11 rfl rfl (by decide) rfl rfl ⟨rfl, Nat.le_of_ble_eq_true rfl⟩ rfl ?_
  refine zz_E.n 1 rfl rfl rfl ?_
  refine zz_E.jf 4 rfl (by rfl) (by decide) rfl ?_
  refine zz_E.n 5 rfl rfl rfl ?_
  refine zz_E.n 7 rfl rfl rfl ?_
  refine zz_E.kf 10 rfl (by rfl) (by decide) rfl ?_
  refine zz_E.n 11 rfl rfl rfl ?_
  refine zz_E.n 15 rfl rfl rfl ?_
  refine zz_E.ret rfl rfl rfl ?_
  refine zz_E.jt 16 rfl (by rfl) (by decide) rfl ?_
  refine zz_E.n 19 rfl rfl rfl ?_
  refine zz_E.n 20 rfl rfl rfl ?_
  refine zz_E.n 21 rfl rfl rfl ?_
  refine zz_E.n 22 rfl rfl rfl ?_
  refine zz_E.n 25 rfl rfl rfl ?_
  refine zz_E.n 26 rfl rfl rfl ?_
  refine zz_E.n 27 rfl rfl rfl ?_
  refine zz_E.n 29 rfl rfl rfl ?_
  refine zz_E.n 30 rfl rfl rfl ?_
  refine zz_E.n 33 rfl rfl rfl ?_
  refine zz_E.n 34 rfl rfl rfl ?_
  refine zz_E.n 35 rfl rfl rfl ?_
  refine zz_E.jt 48 rfl (by rfl) (by decide) rfl ?_
  refine zz_E.n 49 rfl rfl rfl ?_
  refine zz_E.n 52 rfl rfl rfl ?_
  refine zz_E.n 53 rfl rfl rfl ?_
  refine zz_E.n 54 rfl rfl rfl ?_
  refine zz_E.n 55 rfl rfl rfl ?_
  refine zz_E.n 58 rfl rfl rfl ?_
  refine zz_E.n 60 rfl rfl rfl ?_
  refine zz_E.n 61 rfl rfl rfl ?_
  refine zz_E.kf 64 rfl (by rfl) (by decide) rfl ?_
  refine zz_E.n 65 rfl rfl rfl ?_
  refine zz_E.n 68 rfl rfl rfl ?_
  refine zz_E.n 69 rfl rfl rfl ?_
  refine zz_E.n 70 rfl rfl rfl ?_
  refine zz_E.jt 93 rfl (by rfl) (by decide) rfl ?_
  refine zz_E.n 94 rfl rfl rfl ?_
  refine zz_E.n 98 rfl rfl rfl ?_
  refine zz_E.ret rfl rfl rfl ?_
  refine zz_E.kt 652 rfl (by rfl) (by decide) rfl ?_
  refine zz_E.n 655 rfl rfl rfl ?_
  refine zz_E.n 18 rfl rfl rfl ?_
  refine zz_E.n 19 rfl rfl rfl ?_
  refine zz_E.n 20 rfl rfl rfl ?_
  refine zz_E.n 21 rfl rfl rfl ?_
  refine zz_E.n 23 rfl rfl rfl ?_
  refine zz_E.n 24 rfl rfl rfl ?_
  refine zz_E.kt 658 rfl (by rfl) (by decide) rfl ?_
  refine zz_E.n 659 rfl rfl rfl ?_
  refine zz_E.ret rfl rfl rfl ?_
  exact ⟨rfl, by decide +kernel, by decide +kernel⟩
set_option maxRecDepth 100000 in
set_option maxHeartbeats 8000000 in
theorem zv_k15_2_2 (xs : Nat → Int32) : zz_E zp_P zt_tf zt_fd (zt_X 6 (fun q => if q = 1 then nI 2 else if q = 2 then nI 2 else xs q)) 1000 zm_law 33 zv_L [.int (nI 15)] zv_h zv_Q := by
  refine zz_E.n 579 rfl rfl rfl ?_
  refine zz_E.n 580 rfl rfl rfl ?_
  refine zz_E.n 581 rfl rfl rfl ?_
  refine zz_E.n 582 rfl rfl rfl ?_
  refine zz_E.n 583 rfl rfl rfl ?_
  refine zz_E.n 584 rfl rfl rfl ?_
  refine zz_E.n 585 rfl rfl rfl ?_
  refine zz_E.n 586 rfl rfl rfl ?_
  refine zz_E.n 587 rfl rfl rfl ?_
  refine zz_E.n 588 rfl rfl rfl ?_
  refine zz_E.n 589 rfl rfl rfl ?_
  refine zz_E.n 590 rfl rfl rfl ?_
  refine zz_E.cl (M' := zm_17) 593 rfl rfl (by decide) rfl rfl ⟨rfl, Nat.le_of_ble_eq_true rfl⟩ rfl ?_
  refine zz_E.n 1 rfl rfl rfl ?_
  refine zz_E.cl (M' := zm_21) 4 rfl rfl (by decide) rfl rfl ⟨rfl, Nat.le_of_ble_eq_true rfl⟩ rfl ?_
  refine zz_E.n 1 rfl rfl rfl ?_
  refine zz_E.jf 4 rfl (by rfl) (by decide) rfl ?_
  refine zz_E.n 5 rfl rfl rfl ?_
  refine zz_E.n 7 rfl rfl rfl ?_
  refine zz_E.kf 10 rfl (by rfl) (by decide) rfl ?_
  refine zz_E.n 11 rfl rfl rfl ?_
  refine zz_E.n 15 rfl rfl rfl ?_
  refine zz_E.ret rfl rfl rfl ?_
  refine zz_E.jf 7 rfl (by rfl) (by decide) rfl ?_
  refine zz_E.n 8 rfl rfl rfl ?_
  refine zz_E.cl (M' := zm_21) 11 rfl rfl (by decide) rfl rfl ⟨rfl, Nat.le_of_ble_eq_true rfl⟩ rfl ?_
  refine zz_E.n 1 rfl rfl rfl ?_
  refine zz_E.jf 4 rfl (by rfl) (by decide) rfl ?_
  refine zz_E.n 5 rfl rfl rfl ?_
  refine zz_E.n 7 rfl rfl rfl ?_
  refine zz_E.kf 10 rfl (by rfl) (by decide) rfl ?_
  refine zz_E.n 11 rfl rfl rfl ?_
  refine zz_E.n 15 rfl rfl rfl ?_
  refine zz_E.ret rfl rfl rfl ?_
  refine zz_E.jf 14 rfl (by rfl) (by decide) rfl ?_
  refine zz_E.n 15 rfl rfl rfl ?_
  refine zz_E.n 18 rfl rfl rfl ?_
  refine zz_E.n 19 rfl rfl rfl ?_
  refine zz_E.n 20 rfl rfl rfl ?_
  refine zz_E.cl (M' := zm_27) 23 rfl rfl (by decide) rfl rfl ⟨rfl, Nat.le_of_ble_eq_true rfl⟩ rfl ?_
  refine zz_E.n 1 rfl rfl rfl ?_
  refine zz_E.n 4 rfl rfl rfl ?_
  refine zz_E.n 5 rfl rfl rfl ?_
  refine zz_E.n 6 rfl rfl rfl ?_
  refine zz_E.n 7 rfl rfl rfl ?_
  refine zz_E.n 10 rfl rfl rfl ?_
  refine zz_E.n 11 rfl rfl rfl ?_
  refine zz_E.n 12 rfl rfl rfl ?_
  refine zz_E.kf 15 rfl (by rfl) (by decide) rfl ?_
  refine zz_E.n 16 rfl rfl rfl ?_
  refine zz_E.n 20 rfl rfl rfl ?_
  refine zz_E.n 21 rfl rfl rfl ?_
  refine zz_E.n 22 rfl rfl rfl ?_
  refine zz_E.n 24 rfl rfl rfl ?_
  refine zz_E.n 26 rfl rfl rfl ?_
  refine zz_E.n 27 rfl rfl rfl ?_
  refine zz_E.n 30 rfl rfl rfl ?_
  refine zz_E.n 31 rfl rfl rfl ?_
  refine zz_E.n 32 rfl rfl rfl ?_
  refine zz_E.kt 72 rfl (by rfl) (by decide) rfl ?_
  refine zz_E.n 73 rfl rfl rfl ?_
  refine zz_E.ret rfl rfl rfl ?_
  refine zz_E.jf 26 rfl (by rfl) (by decide) rfl ?_
  refine zz_E.n 27 rfl rfl rfl ?_
  refine zz_E.n 31 rfl rfl rfl ?_
  refine zz_E.ret rfl rfl rfl ?_
  refine zz_E.n 594 rfl rfl rfl ?_
  refine zz_E.n 595 rfl rfl rfl ?_
  refine zz_E.n 596 rfl rfl rfl ?_
  refine zz_E.n 597 rfl rfl rfl ?_
  refine zz_E.n 598 rfl rfl rfl ?_
  refine zz_E.n 599 rfl rfl rfl ?_
  refine zz_E.n 600 rfl rfl rfl ?_
  refine zz_E.n 601 rfl rfl rfl ?_
  refine zz_E.n 602 rfl rfl rfl ?_
  refine zz_E.n 603 rfl rfl rfl ?_
  refine zz_E.n 604 rfl rfl rfl ?_
  refine zz_E.cl (M' := zm_82) 607 rfl rfl (by decide) rfl rfl ⟨rfl, Nat.le_of_ble_eq_true rfl⟩ rfl ?_
  refine zz_E.n 1 rfl rfl rfl ?_
  refine zz_E.cl (M' := zm_73) 4 rfl rfl (by decide) rfl rfl ⟨rfl, Nat.le_of_ble_eq_true rfl⟩ rfl ?_
  refine zz_E.n 1 rfl rfl rfl ?_
  refine zz_E.jf 4 rfl (by rfl) (by decide) rfl ?_
  refine zz_E.n 5 rfl rfl rfl ?_
  refine zz_E.n 7 rfl rfl rfl ?_
  refine zz_E.kf 10 rfl (by rfl) (by decide) rfl ?_
  refine zz_E.n 11 rfl rfl rfl ?_
  refine zz_E.n 15 rfl rfl rfl ?_
  refine zz_E.ret rfl rfl rfl ?_
  refine zz_E.jf 7 rfl (by rfl) (by decide) rfl ?_
  refine zz_E.n 8 rfl rfl rfl ?_
  refine zz_E.cl (M' := zm_73) 11 rfl rfl (by decide) rfl rfl ⟨rfl, Nat.le_of_ble_eq_true rfl⟩ rfl ?_
  refine zz_E.n 1 rfl rfl rfl ?_
  refine zz_E.jf 4 rfl (by rfl) (by decide) rfl ?_
  refine zz_E.n 5 rfl rfl rfl ?_
  refine zz_E.n 7 rfl rfl rfl ?_
  refine zz_E.kf 10 rfl (by rfl) (by decide) rfl ?_
  refine zz_E.n 11 rfl rfl rfl ?_
  refine zz_E.n 15 rfl rfl rfl ?_
  refine zz_E.ret rfl rfl rfl ?_
  refine zz_E.jt 16 rfl (by rfl) (by decide) rfl ?_
  refine zz_E.n 19 rfl rfl rfl ?_
  refine zz_E.n 20 rfl rfl rfl ?_
  refine zz_E.n 21 rfl rfl rfl ?_
  refine zz_E.n 22 rfl rfl rfl ?_
  refine zz_E.n 25 rfl rfl rfl ?_
  refine zz_E.n 26 rfl rfl rfl ?_
  refine zz_E.n 27 rfl rfl rfl ?_
  refine zz_E.n 29 rfl rfl rfl ?_
  refine zz_E.n 30 rfl rfl rfl ?_
  refine zz_E.n 33 rfl rfl rfl ?_
  refine zz_E.n 34 rfl rfl rfl ?_
  refine zz_E.n 35 rfl rfl rfl ?_
  refine zz_E.jt 48 rfl (by rfl) (by decide) rfl ?_
  refine zz_E.n 49 rfl rfl rfl ?_
  refine zz_E.n 52 rfl rfl rfl ?_
  refine zz_E.n 53 rfl rfl rfl ?_
  refine zz_E.n 54 rfl rfl rfl ?_
  refine zz_E.n 55 rfl rfl rfl ?_
  refine zz_E.n 58 rfl rfl rfl ?_
  refine zz_E.n 60 rfl rfl rfl ?_
  refine zz_E.n 61 rfl rfl rfl ?_
  refine zz_E.kf 64 rfl (by rfl) (by decide) rfl ?_
  refine zz_E.n 65 rfl rfl rfl ?_
  refine zz_E.n 68 rfl rfl rfl ?_
  refine zz_E.n 69 rfl rfl rfl ?_
  refine zz_E.n 70 rfl rfl rfl ?_
  refine zz_E.jt 93 rfl (by rfl) (by decide) rfl ?_
  refine zz_E.n 94 rfl rfl rfl ?_
  refine zz_E.n 98 rfl rfl rfl ?_
  refine zz_E.ret rfl rfl rfl ?_
  refine zz_E.kt 652 rfl (by rfl) (by decide) rfl ?_
  refine zz_E.n 655 rfl rfl rfl ?_
  refine zz_E.n 18 rfl rfl rfl ?_
  refine zz_E.n 19 rfl rfl rfl ?_
  refine zz_E.n 20 rfl rfl rfl ?_
  refine zz_E.n 21 rfl rfl rfl ?_
  refine zz_E.n 23 rfl rfl rfl ?_
  refine zz_E.n 24 rfl rfl rfl ?_
  refine zz_E.kt 658 rfl (by rfl) (by decide) rfl ?_
  refine zz_E.n 659 rfl rfl rfl ?_
  refine zz_E.ret rfl rfl rfl ?_
  exact ⟨rfl, by decide +kernel, by decide +kernel⟩
set_option maxRecDepth 100000 in
set_option maxHeartbeats 8000000 in
theorem zv_k15_2_3 (xs : Nat → Int32) : zz_E zp_P zt_tf zt_fd (zt_X 6 (fun q => if q = 1 then nI 2 else if q = 2 then nI 3 else xs q)) 1000 zm_law 33 zv_L [.int (nI 15)] zv_h zv_Q := by
  refine zz_E.n 579 rfl rfl rfl ?_
  refine zz_E.n 580 rfl rfl rfl ?_
  refine zz_E.n 581 rfl rfl rfl ?_
  refine zz_E.n 582 rfl rfl rfl ?_
  refine zz_E.n 583 rfl rfl rfl ?_
  refine zz_E.n 584 rfl rfl rfl ?_
  refine zz_E.n 585 rfl rfl rfl ?_
  refine zz_E.n 586 rfl rfl rfl ?_
  refine zz_E.n 587 rfl rfl rfl ?_
  refine zz_E.n 588 rfl rfl rfl ?_
  refine zz_E.n 589 rfl rfl rfl ?_
  refine zz_E.n 590 rfl rfl rfl ?_
  refine zz_E.cl (M' := zm_17) 593 rfl rfl (by decide) rfl rfl ⟨rfl, Nat.le_of_ble_eq_true rfl⟩ rfl ?_
  refine zz_E.n 1 rfl rfl rfl ?_
  refine zz_E.cl (M' := zm_21) 4 rfl rfl (by decide) rfl rfl ⟨rfl, Nat.le_of_ble_eq_true rfl⟩ rfl ?_
  refine zz_E.n 1 rfl rfl rfl ?_
  refine zz_E.jf 4 rfl (by rfl) (by decide) rfl ?_
  refine zz_E.n 5 rfl rfl rfl ?_
  refine zz_E.n 7 rfl rfl rfl ?_
  refine zz_E.kf 10 rfl (by rfl) (by decide) rfl ?_
  refine zz_E.n 11 rfl rfl rfl ?_
  refine zz_E.n 15 rfl rfl rfl ?_
  refine zz_E.ret rfl rfl rfl ?_
  refine zz_E.jf 7 rfl (by rfl) (by decide) rfl ?_
  refine zz_E.n 8 rfl rfl rfl ?_
  refine zz_E.cl (M' := zm_21) 11 rfl rfl (by decide) rfl rfl ⟨rfl, Nat.le_of_ble_eq_true rfl⟩ rfl ?_
  refine zz_E.n 1 rfl rfl rfl ?_
  refine zz_E.jf 4 rfl (by rfl) (by decide) rfl ?_
  refine zz_E.n 5 rfl rfl rfl ?_
  refine zz_E.n 7 rfl rfl rfl ?_
  refine zz_E.kf 10 rfl (by rfl) (by decide) rfl ?_
  refine zz_E.n 11 rfl rfl rfl ?_
  refine zz_E.n 15 rfl rfl rfl ?_
  refine zz_E.ret rfl rfl rfl ?_
  refine zz_E.jf 14 rfl (by rfl) (by decide) rfl ?_
  refine zz_E.n 15 rfl rfl rfl ?_
  refine zz_E.n 18 rfl rfl rfl ?_
  refine zz_E.n 19 rfl rfl rfl ?_
  refine zz_E.n 20 rfl rfl rfl ?_
  refine zz_E.cl (M' := zm_27) 23 rfl rfl (by decide) rfl rfl ⟨rfl, Nat.le_of_ble_eq_true rfl⟩ rfl ?_
  refine zz_E.n 1 rfl rfl rfl ?_
  refine zz_E.n 4 rfl rfl rfl ?_
  refine zz_E.n 5 rfl rfl rfl ?_
  refine zz_E.n 6 rfl rfl rfl ?_
  refine zz_E.n 7 rfl rfl rfl ?_
  refine zz_E.n 10 rfl rfl rfl ?_
  refine zz_E.n 11 rfl rfl rfl ?_
  refine zz_E.n 12 rfl rfl rfl ?_
  refine zz_E.kf 15 rfl (by rfl) (by decide) rfl ?_
  refine zz_E.n 16 rfl rfl rfl ?_
  refine zz_E.n 20 rfl rfl rfl ?_
  refine zz_E.n 21 rfl rfl rfl ?_
  refine zz_E.n 22 rfl rfl rfl ?_
  refine zz_E.n 24 rfl rfl rfl ?_
  refine zz_E.n 26 rfl rfl rfl ?_
  refine zz_E.n 27 rfl rfl rfl ?_
  refine zz_E.n 30 rfl rfl rfl ?_
  refine zz_E.n 31 rfl rfl rfl ?_
  refine zz_E.n 32 rfl rfl rfl ?_
  refine zz_E.kt 72 rfl (by rfl) (by decide) rfl ?_
  refine zz_E.n 73 rfl rfl rfl ?_
  refine zz_E.ret rfl rfl rfl ?_
  refine zz_E.jf 26 rfl (by rfl) (by decide) rfl ?_
  refine zz_E.n 27 rfl rfl rfl ?_
  refine zz_E.n 31 rfl rfl rfl ?_
  refine zz_E.ret rfl rfl rfl ?_
  refine zz_E.n 594 rfl rfl rfl ?_
  refine zz_E.n 595 rfl rfl rfl ?_
  refine zz_E.n 596 rfl rfl rfl ?_
  refine zz_E.n 597 rfl rfl rfl ?_
  refine zz_E.n 598 rfl rfl rfl ?_
  refine zz_E.n 599 rfl rfl rfl ?_
  refine zz_E.n 600 rfl rfl rfl ?_
  refine zz_E.n 601 rfl rfl rfl ?_
  refine zz_E.n 602 rfl rfl rfl ?_
  refine zz_E.n 603 rfl rfl rfl ?_
  refine zz_E.n 604 rfl rfl rfl ?_
  refine zz_E.cl (M' := zm_82) 607 rfl rfl (by decide) rfl rfl ⟨rfl, Nat.le_of_ble_eq_true rfl⟩ rfl ?_
  refine zz_E.n 1 rfl rfl rfl ?_
  refine zz_E.cl (M' := zm_73) 4 rfl rfl (by decide) rfl rfl ⟨rfl, Nat.le_of_ble_eq_true rfl⟩ rfl ?_
  refine zz_E.n 1 rfl rfl rfl ?_
  refine zz_E.jf 4 rfl (by rfl) (by decide) rfl ?_
  refine zz_E.n 5 rfl rfl rfl ?_
  refine zz_E.n 7 rfl rfl rfl ?_
  refine zz_E.kf 10 rfl (by rfl) (by decide) rfl ?_
  refine zz_E.n 11 rfl rfl rfl ?_
  refine zz_E.n 15 rfl rfl rfl ?_
  refine zz_E.ret rfl rfl rfl ?_
  refine zz_E.jf 7 rfl (by rfl) (by decide) rfl ?_
  refine zz_E.n 8 rfl rfl rfl ?_
  refine zz_E.cl (M' := zm_73) 11 rfl rfl (by decide) rfl rfl ⟨rfl, Nat.le_of_ble_eq_true rfl⟩ rfl ?_
  refine zz_E.n 1 rfl rfl rfl ?_
  refine zz_E.jf 4 rfl (by rfl) (by decide) rfl ?_
  refine zz_E.n 5 rfl rfl rfl ?_
  refine zz_E.n 7 rfl rfl rfl ?_
  refine zz_E.kf 10 rfl (by rfl) (by decide) rfl ?_
  refine zz_E.n 11 rfl rfl rfl ?_
  refine zz_E.n 15 rfl rfl rfl ?_
  refine zz_E.ret rfl rfl rfl ?_
  refine zz_E.jt 16 rfl (by rfl) (by decide) rfl ?_
  refine zz_E.n 19 rfl rfl rfl ?_
  refine zz_E.n 20 rfl rfl rfl ?_
  refine zz_E.n 21 rfl rfl rfl ?_
  refine zz_E.n 22 rfl rfl rfl ?_
  refine zz_E.n 25 rfl rfl rfl ?_
  refine zz_E.n 26 rfl rfl rfl ?_
  refine zz_E.n 27 rfl rfl rfl ?_
  refine zz_E.n 29 rfl rfl rfl ?_
  refine zz_E.n 30 rfl rfl rfl ?_
  refine zz_E.n 33 rfl rfl rfl ?_
  refine zz_E.n 34 rfl rfl rfl ?_
  refine zz_E.n 35 rfl rfl rfl ?_
  refine zz_E.jt 48 rfl (by rfl) (by decide) rfl ?_
  refine zz_E.n 49 rfl rfl rfl ?_
  refine zz_E.n 52 rfl rfl rfl ?_
  refine zz_E.n 53 rfl rfl rfl ?_
  refine zz_E.n 54 rfl rfl rfl ?_
  refine zz_E.n 55 rfl rfl rfl ?_
  refine zz_E.n 58 rfl rfl rfl ?_
  refine zz_E.n 60 rfl rfl rfl ?_
  refine zz_E.n 61 rfl rfl rfl ?_
  refine zz_E.kf 64 rfl (by rfl) (by decide) rfl ?_
  refine zz_E.n 65 rfl rfl rfl ?_
  refine zz_E.n 68 rfl rfl rfl ?_
  refine zz_E.n 69 rfl rfl rfl ?_
  refine zz_E.n 70 rfl rfl rfl ?_
  refine zz_E.jt 93 rfl (by rfl) (by decide) rfl ?_
  refine zz_E.n 94 rfl rfl rfl ?_
  refine zz_E.n 98 rfl rfl rfl ?_
  refine zz_E.ret rfl rfl rfl ?_
  refine zz_E.kt 652 rfl (by rfl) (by decide) rfl ?_
  refine zz_E.n 655 rfl rfl rfl ?_
  refine zz_E.n 18 rfl rfl rfl ?_
  refine zz_E.n 19 rfl rfl rfl ?_
  refine zz_E.n 20 rfl rfl rfl ?_
  refine zz_E.n 21 rfl rfl rfl ?_
  refine zz_E.n 23 rfl rfl rfl ?_
  refine zz_E.n 24 rfl rfl rfl ?_
  refine zz_E.kt 658 rfl (by rfl) (by decide) rfl ?_
  refine zz_E.n 659 rfl rfl rfl ?_
  refine zz_E.ret rfl rfl rfl ?_
  exact ⟨rfl, by decide +kernel, by decide +kernel⟩
set_option maxRecDepth 100000 in
set_option maxHeartbeats 8000000 in
theorem zv_k15_2_4 (xs : Nat → Int32) : zz_E zp_P zt_tf zt_fd (zt_X 6 (fun q => if q = 1 then nI 2 else if q = 2 then nI 4 else xs q)) 1000 zm_law 33 zv_L [.int (nI 15)] zv_h zv_Q := by
  refine zz_E.n 579 rfl rfl rfl ?_
  refine zz_E.n 580 rfl rfl rfl ?_
  refine zz_E.n 581 rfl rfl rfl ?_
  refine zz_E.n 582 rfl rfl rfl ?_
  refine zz_E.n 583 rfl rfl rfl ?_
  refine zz_E.n 584 rfl rfl rfl ?_
  refine zz_E.n 585 rfl rfl rfl ?_
  refine zz_E.n 586 rfl rfl rfl ?_
  refine zz_E.n 587 rfl rfl rfl ?_
  refine zz_E.n 588 rfl rfl rfl ?_
  refine zz_E.n 589 rfl rfl rfl ?_
  refine zz_E.n 590 rfl rfl rfl ?_
  refine zz_E.cl (M' := zm_17) 593 rfl rfl (by decide) rfl rfl ⟨rfl, Nat.le_of_ble_eq_true rfl⟩ rfl ?_
  refine zz_E.n 1 rfl rfl rfl ?_
  refine zz_E.cl (M' := zm_21) 4 rfl rfl (by decide) rfl rfl ⟨rfl, Nat.le_of_ble_eq_true rfl⟩ rfl ?_
  refine zz_E.n 1 rfl rfl rfl ?_
  refine zz_E.jf 4 rfl (by rfl) (by decide) rfl ?_
  refine zz_E.n 5 rfl rfl rfl ?_
  refine zz_E.n 7 rfl rfl rfl ?_
  refine zz_E.kf 10 rfl (by rfl) (by decide) rfl ?_
  refine zz_E.n 11 rfl rfl rfl ?_
  refine zz_E.n 15 rfl rfl rfl ?_
  refine zz_E.ret rfl rfl rfl ?_
  refine zz_E.jf 7 rfl (by rfl) (by decide) rfl ?_
  refine zz_E.n 8 rfl rfl rfl ?_
  refine zz_E.cl (M' := zm_21) 11 rfl rfl (by decide) rfl rfl ⟨rfl, Nat.le_of_ble_eq_true rfl⟩ rfl ?_
  refine zz_E.n 1 rfl rfl rfl ?_
  refine zz_E.jf 4 rfl (by rfl) (by decide) rfl ?_
  refine zz_E.n 5 rfl rfl rfl ?_
  refine zz_E.n 7 rfl rfl rfl ?_
  refine zz_E.kf 10 rfl (by rfl) (by decide) rfl ?_
  refine zz_E.n 11 rfl rfl rfl ?_
  refine zz_E.n 15 rfl rfl rfl ?_
  refine zz_E.ret rfl rfl rfl ?_
  refine zz_E.jf 14 rfl (by rfl) (by decide) rfl ?_
  refine zz_E.n 15 rfl rfl rfl ?_
  refine zz_E.n 18 rfl rfl rfl ?_
  refine zz_E.n 19 rfl rfl rfl ?_
  refine zz_E.n 20 rfl rfl rfl ?_
  refine zz_E.cl (M' := zm_27) 23 rfl rfl (by decide) rfl rfl ⟨rfl, Nat.le_of_ble_eq_true rfl⟩ rfl ?_
  refine zz_E.n 1 rfl rfl rfl ?_
  refine zz_E.n 4 rfl rfl rfl ?_
  refine zz_E.n 5 rfl rfl rfl ?_
  refine zz_E.n 6 rfl rfl rfl ?_
  refine zz_E.n 7 rfl rfl rfl ?_
  refine zz_E.n 10 rfl rfl rfl ?_
  refine zz_E.n 11 rfl rfl rfl ?_
  refine zz_E.n 12 rfl rfl rfl ?_
  refine zz_E.kf 15 rfl (by rfl) (by decide) rfl ?_
  refine zz_E.n 16 rfl rfl rfl ?_
  refine zz_E.n 20 rfl rfl rfl ?_
  refine zz_E.n 21 rfl rfl rfl ?_
  refine zz_E.n 22 rfl rfl rfl ?_
  refine zz_E.n 24 rfl rfl rfl ?_
  refine zz_E.n 26 rfl rfl rfl ?_
  refine zz_E.n 27 rfl rfl rfl ?_
  refine zz_E.n 30 rfl rfl rfl ?_
  refine zz_E.n 31 rfl rfl rfl ?_
  refine zz_E.n 32 rfl rfl rfl ?_
  refine zz_E.kt 72 rfl (by rfl) (by decide) rfl ?_
  refine zz_E.n 73 rfl rfl rfl ?_
  refine zz_E.ret rfl rfl rfl ?_
  refine zz_E.jf 26 rfl (by rfl) (by decide) rfl ?_
  refine zz_E.n 27 rfl rfl rfl ?_
  refine zz_E.n 31 rfl rfl rfl ?_
  refine zz_E.ret rfl rfl rfl ?_
  refine zz_E.n 594 rfl rfl rfl ?_
  refine zz_E.n 595 rfl rfl rfl ?_
  refine zz_E.n 596 rfl rfl rfl ?_
  refine zz_E.n 597 rfl rfl rfl ?_
  refine zz_E.n 598 rfl rfl rfl ?_
  refine zz_E.n 599 rfl rfl rfl ?_
  refine zz_E.n 600 rfl rfl rfl ?_
  refine zz_E.n 601 rfl rfl rfl ?_
  refine zz_E.n 602 rfl rfl rfl ?_
  refine zz_E.n 603 rfl rfl rfl ?_
  refine zz_E.n 604 rfl rfl rfl ?_
  refine zz_E.cl (M' := zm_82) 607 rfl rfl (by decide) rfl rfl ⟨rfl, Nat.le_of_ble_eq_true rfl⟩ rfl ?_
  refine zz_E.n 1 rfl rfl rfl ?_
  refine zz_E.cl (M' := zm_73) 4 rfl rfl (by decide) rfl rfl ⟨rfl, Nat.le_of_ble_eq_true rfl⟩ rfl ?_
  refine zz_E.n 1 rfl rfl rfl ?_
  refine zz_E.jf 4 rfl (by rfl) (by decide) rfl ?_
  refine zz_E.n 5 rfl rfl rfl ?_
  refine zz_E.n 7 rfl rfl rfl ?_
  refine zz_E.kf 10 rfl (by rfl) (by decide) rfl ?_
  refine zz_E.n 11 rfl rfl rfl ?_
  refine zz_E.n 15 rfl rfl rfl ?_
  refine zz_E.ret rfl rfl rfl ?_
  refine zz_E.jf 7 rfl (by rfl) (by decide) rfl ?_
  refine zz_E.n 8 rfl rfl rfl ?_
  refine zz_E.cl (M' := zm_73) 11 rfl rfl (by decide) rfl rfl ⟨rfl, Nat.le_of_ble_eq_true rfl⟩ rfl ?_
  refine zz_E.n 1 rfl rfl rfl ?_
  refine zz_E.jf 4 rfl (by rfl) (by decide) rfl ?_
  refine zz_E.n 5 rfl rfl rfl ?_
  refine zz_E.n 7 rfl rfl rfl ?_
  refine zz_E.kf 10 rfl (by rfl) (by decide) rfl ?_
  refine zz_E.n 11 rfl rfl rfl ?_
  refine zz_E.n 15 rfl rfl rfl ?_
  refine zz_E.ret rfl rfl rfl ?_
  refine zz_E.jt 16 rfl (by rfl) (by decide) rfl ?_
  refine zz_E.n 19 rfl rfl rfl ?_
  refine zz_E.n 20 rfl rfl rfl ?_
  refine zz_E.n 21 rfl rfl rfl ?_
  refine zz_E.n 22 rfl rfl rfl ?_
  refine zz_E.n 25 rfl rfl rfl ?_
  refine zz_E.n 26 rfl rfl rfl ?_
  refine zz_E.n 27 rfl rfl rfl ?_
  refine zz_E.n 29 rfl rfl rfl ?_
  refine zz_E.n 30 rfl rfl rfl ?_
  refine zz_E.n 33 rfl rfl rfl ?_
  refine zz_E.n 34 rfl rfl rfl ?_
  refine zz_E.n 35 rfl rfl rfl ?_
  refine zz_E.jt 48 rfl (by rfl) (by decide) rfl ?_
  refine zz_E.n 49 rfl rfl rfl ?_
  refine zz_E.n 52 rfl rfl rfl ?_
  refine zz_E.n 53 rfl rfl rfl ?_
  refine zz_E.n 54 rfl rfl rfl ?_
  refine zz_E.n 55 rfl rfl rfl ?_
  refine zz_E.n 58 rfl rfl rfl ?_
  refine zz_E.n 60 rfl rfl rfl ?_
  refine zz_E.n 61 rfl rfl rfl ?_
  refine zz_E.kf 64 rfl (by rfl) (by decide) rfl ?_
  refine zz_E.n 65 rfl rfl rfl ?_
  refine zz_E.n 68 rfl rfl rfl ?_
  refine zz_E.n 69 rfl rfl rfl ?_
  refine zz_E.n 70 rfl rfl rfl ?_
  refine zz_E.jt 93 rfl (by rfl) (by decide) rfl ?_
  refine zz_E.n 94 rfl rfl rfl ?_
  refine zz_E.n 98 rfl rfl rfl ?_
  refine zz_E.ret rfl rfl rfl ?_
  refine zz_E.kt 652 rfl (by rfl) (by decide) rfl ?_
  refine zz_E.n 655 rfl rfl rfl ?_
  refine zz_E.n 18 rfl rfl rfl ?_
  refine zz_E.n 19 rfl rfl rfl ?_
  refine zz_E.n 20 rfl rfl rfl ?_
  refine zz_E.n 21 rfl rfl rfl ?_
  refine zz_E.n 23 rfl rfl rfl ?_
  refine zz_E.n 24 rfl rfl rfl ?_
  refine zz_E.kt 658 rfl (by rfl) (by decide) rfl ?_
  refine zz_E.n 659 rfl rfl rfl ?_
  refine zz_E.ret rfl rfl rfl ?_
  exact ⟨rfl, by decide +kernel, by decide +kernel⟩
set_option maxRecDepth 100000 in
set_option maxHeartbeats 8000000 in
theorem zv_k15_2_5 (xs : Nat → Int32) : zz_E zp_P zt_tf zt_fd (zt_X 6 (fun q => if q = 1 then nI 2 else if q = 2 then nI 5 else xs q)) 1000 zm_law 33 zv_L [.int (nI 15)] zv_h zv_Q := by
  refine zz_E.n 579 rfl rfl rfl ?_
  refine zz_E.n 580 rfl rfl rfl ?_
  refine zz_E.n 581 rfl rfl rfl ?_
  refine zz_E.n 582 rfl rfl rfl ?_
  refine zz_E.n 583 rfl rfl rfl ?_
  refine zz_E.n 584 rfl rfl rfl ?_
  refine zz_E.n 585 rfl rfl rfl ?_
  refine zz_E.n 586 rfl rfl rfl ?_
  refine zz_E.n 587 rfl rfl rfl ?_
  refine zz_E.n 588 rfl rfl rfl ?_
  refine zz_E.n 589 rfl rfl rfl ?_
  refine zz_E.n 590 rfl rfl rfl ?_
  refine zz_E.cl (M' := zm_17) 593 rfl rfl (by decide) rfl rfl ⟨rfl, Nat.le_of_ble_eq_true rfl⟩ rfl ?_
  refine zz_E.n 1 rfl rfl rfl ?_
  refine zz_E.cl (M' := zm_21) 4 rfl rfl (by decide) rfl rfl ⟨rfl, Nat.le_of_ble_eq_true rfl⟩ rfl ?_
  refine zz_E.n 1 rfl rfl rfl ?_
  refine zz_E.jf 4 rfl (by rfl) (by decide) rfl ?_
  refine zz_E.n 5 rfl rfl rfl ?_
  refine zz_E.n 7 rfl rfl rfl ?_
  refine zz_E.kf 10 rfl (by rfl) (by decide) rfl ?_
  refine zz_E.n 11 rfl rfl rfl ?_
  refine zz_E.n 15 rfl rfl rfl ?_
  refine zz_E.ret rfl rfl rfl ?_
  refine zz_E.jf 7 rfl (by rfl) (by decide) rfl ?_
  refine zz_E.n 8 rfl rfl rfl ?_
  refine zz_E.cl (M' := zm_21) 11 rfl rfl (by decide) rfl rfl ⟨rfl, Nat.le_of_ble_eq_true rfl⟩ rfl ?_
  refine zz_E.n 1 rfl rfl rfl ?_
  refine zz_E.jf 4 rfl (by rfl) (by decide) rfl ?_
  refine zz_E.n 5 rfl rfl rfl ?_
  refine zz_E.n 7 rfl rfl rfl ?_
  refine zz_E.kf 10 rfl (by rfl) (by decide) rfl ?_
  refine zz_E.n 11 rfl rfl rfl ?_
  refine zz_E.n 15 rfl rfl rfl ?_
  refine zz_E.ret rfl rfl rfl ?_
  refine zz_E.jf 14 rfl (by rfl) (by decide) rfl ?_
  refine zz_E.n 15 rfl rfl rfl ?_
  refine zz_E.n 18 rfl rfl rfl ?_
  refine zz_E.n 19 rfl rfl rfl ?_
  refine zz_E.n 20 rfl rfl rfl ?_
  refine zz_E.cl (M' := zm_27) 23 rfl rfl (by decide) rfl rfl ⟨rfl, Nat.le_of_ble_eq_true rfl⟩ rfl ?_
  refine zz_E.n 1 rfl rfl rfl ?_
  refine zz_E.n 4 rfl rfl rfl ?_
  refine zz_E.n 5 rfl rfl rfl ?_
  refine zz_E.n 6 rfl rfl rfl ?_
  refine zz_E.n 7 rfl rfl rfl ?_
  refine zz_E.n 10 rfl rfl rfl ?_
  refine zz_E.n 11 rfl rfl rfl ?_
  refine zz_E.n 12 rfl rfl rfl ?_
  refine zz_E.kf 15 rfl (by rfl) (by decide) rfl ?_
  refine zz_E.n 16 rfl rfl rfl ?_
  refine zz_E.n 20 rfl rfl rfl ?_
  refine zz_E.n 21 rfl rfl rfl ?_
  refine zz_E.n 22 rfl rfl rfl ?_
  refine zz_E.n 24 rfl rfl rfl ?_
  refine zz_E.n 26 rfl rfl rfl ?_
  refine zz_E.n 27 rfl rfl rfl ?_
  refine zz_E.n 30 rfl rfl rfl ?_
  refine zz_E.n 31 rfl rfl rfl ?_
  refine zz_E.n 32 rfl rfl rfl ?_
  refine zz_E.kt 72 rfl (by rfl) (by decide) rfl ?_
  refine zz_E.n 73 rfl rfl rfl ?_
  refine zz_E.ret rfl rfl rfl ?_
  refine zz_E.jf 26 rfl (by rfl) (by decide) rfl ?_
  refine zz_E.n 27 rfl rfl rfl ?_
  refine zz_E.n 31 rfl rfl rfl ?_
  refine zz_E.ret rfl rfl rfl ?_
  refine zz_E.n 594 rfl rfl rfl ?_
  refine zz_E.n 595 rfl rfl rfl ?_
  refine zz_E.n 596 rfl rfl rfl ?_
  refine zz_E.n 597 rfl rfl rfl ?_
  refine zz_E.n 598 rfl rfl rfl ?_
  refine zz_E.n 599 rfl rfl rfl ?_
  refine zz_E.n 600 rfl rfl rfl ?_
  refine zz_E.n 601 rfl rfl rfl ?_
  refine zz_E.n 602 rfl rfl rfl ?_
  refine zz_E.n 603 rfl rfl rfl ?_
  refine zz_E.n 604 rfl rfl rfl ?_
  refine zz_E.cl (M' := zm_82) 607 rfl rfl (by decide) rfl rfl ⟨rfl, Nat.le_of_ble_eq_true rfl⟩ rfl ?_
  refine zz_E.n 1 rfl rfl rfl ?_
  refine zz_E.cl (M' := zm_73) 4 rfl rfl (by decide) rfl rfl ⟨rfl, Nat.le_of_ble_eq_true rfl⟩ rfl ?_
  refine zz_E.n 1 rfl rfl rfl ?_
  refine zz_E.jf 4 rfl (by rfl) (by decide) rfl ?_
  refine zz_E.n 5 rfl rfl rfl ?_
  refine zz_E.n 7 rfl rfl rfl ?_
  refine zz_E.kf 10 rfl (by rfl) (by decide) rfl ?_
  refine zz_E.n 11 rfl rfl rfl ?_
  refine zz_E.n 15 rfl rfl rfl ?_
  refine zz_E.ret rfl rfl rfl ?_
  refine zz_E.jf 7 rfl (by rfl) (by decide) rfl ?_
  refine zz_E.n 8 rfl rfl rfl ?_
  refine zz_E.cl (M' := zm_73) 11 rfl rfl (by decide) rfl rfl ⟨rfl, Nat.le_of_ble_eq_true rfl⟩ rfl ?_
  refine zz_E.n 1 rfl rfl rfl ?_
  refine zz_E.jf 4 rfl (by rfl) (by decide) rfl ?_
  refine zz_E.n 5 rfl rfl rfl ?_
  refine zz_E.n 7 rfl rfl rfl ?_
  refine zz_E.kf 10 rfl (by rfl) (by decide) rfl ?_
  refine zz_E.n 11 rfl rfl rfl ?_
  refine zz_E.n 15 rfl rfl rfl ?_
  refine zz_E.ret rfl rfl rfl ?_
  refine zz_E.jt 16 rfl (by rfl) (by decide) rfl ?_
  refine zz_E.n 19 rfl rfl rfl ?_
  refine zz_E.n 20 rfl rfl rfl ?_
  refine zz_E.n 21 rfl rfl rfl ?_
  refine zz_E.n 22 rfl rfl rfl ?_
  refine zz_E.n 25 rfl rfl rfl ?_
  refine zz_E.n 26 rfl rfl rfl ?_
  refine zz_E.n 27 rfl rfl rfl ?_
  refine zz_E.n 29 rfl rfl rfl ?_
  refine zz_E.n 30 rfl rfl rfl ?_
  refine zz_E.n 33 rfl rfl rfl ?_
  refine zz_E.n 34 rfl rfl rfl ?_
  refine zz_E.n 35 rfl rfl rfl ?_
  refine zz_E.jt 48 rfl (by rfl) (by decide) rfl ?_
  refine zz_E.n 49 rfl rfl rfl ?_
  refine zz_E.n 52 rfl rfl rfl ?_
  refine zz_E.n 53 rfl rfl rfl ?_
  refine zz_E.n 54 rfl rfl rfl ?_
  refine zz_E.n 55 rfl rfl rfl ?_
  refine zz_E.n 58 rfl rfl rfl ?_
  refine zz_E.n 60 rfl rfl rfl ?_
  refine zz_E.n 61 rfl rfl rfl ?_
  refine zz_E.kf 64 rfl (by rfl) (by decide) rfl ?_
  refine zz_E.n 65 rfl rfl rfl ?_
  refine zz_E.n 68 rfl rfl rfl ?_
  refine zz_E.n 69 rfl rfl rfl ?_
  refine zz_E.n 70 rfl rfl rfl ?_
  refine zz_E.jt 93 rfl (by rfl) (by decide) rfl ?_
  refine zz_E.n 94 rfl rfl rfl ?_
  refine zz_E.n 98 rfl rfl rfl ?_
  refine zz_E.ret rfl rfl rfl ?_
  refine zz_E.kt 652 rfl (by rfl) (by decide) rfl ?_
  refine zz_E.n 655 rfl rfl rfl ?_
  refine zz_E.n 18 rfl rfl rfl ?_
  refine zz_E.n 19 rfl rfl rfl ?_
  refine zz_E.n 20 rfl rfl rfl ?_
  refine zz_E.n 21 rfl rfl rfl ?_
  refine zz_E.n 23 rfl rfl rfl ?_
  refine zz_E.n 24 rfl rfl rfl ?_
  refine zz_E.kt 658 rfl (by rfl) (by decide) rfl ?_
  refine zz_E.n 659 rfl rfl rfl ?_
  refine zz_E.ret rfl rfl rfl ?_
  exact ⟨rfl, by decide +kernel, by decide +kernel⟩
set_option maxRecDepth 100000 in
set_option maxHeartbeats 8000000 in
theorem zv_k15_2_6 (xs : Nat → Int32) : zz_E zp_P zt_tf zt_fd (zt_X 6 (fun q => if q = 1 then nI 2 else if q = 2 then nI 6 else xs q)) 1000 zm_law 33 zv_L [.int (nI 15)] zv_h zv_Q := by
  refine zz_E.n 579 rfl rfl rfl ?_
  refine zz_E.n 580 rfl rfl rfl ?_
  refine zz_E.n 581 rfl rfl rfl ?_
  refine zz_E.n 582 rfl rfl rfl ?_
  refine zz_E.n 583 rfl rfl rfl ?_
  refine zz_E.n 584 rfl rfl rfl ?_
  refine zz_E.n 585 rfl rfl rfl ?_
  refine zz_E.n 586 rfl rfl rfl ?_
  refine zz_E.n 587 rfl rfl rfl ?_
  refine zz_E.n 588 rfl rfl rfl ?_
  refine zz_E.n 589 rfl rfl rfl ?_
  refine zz_E.n 590 rfl rfl rfl ?_
  refine zz_E.cl (M' := zm_17) 593 rfl rfl (by decide) rfl rfl ⟨rfl, Nat.le_of_ble_eq_true rfl⟩ rfl ?_
  refine zz_E.n 1 rfl rfl rfl ?_
  refine zz_E.cl (M' := zm_21) 4 rfl rfl (by decide) rfl rfl ⟨rfl, Nat.le_of_ble_eq_true rfl⟩ rfl ?_
  refine zz_E.n 1 rfl rfl rfl ?_
  refine zz_E.jf 4 rfl (by rfl) (by decide) rfl ?_
  refine zz_E.n 5 rfl rfl rfl ?_
  refine zz_E.n 7 rfl rfl rfl ?_
  refine zz_E.kf 10 rfl (by rfl) (by decide) rfl ?_
  refine zz_E.n 11 rfl rfl rfl ?_
  refine zz_E.n 15 rfl rfl rfl ?_
  refine zz_E.ret rfl rfl rfl ?_
  refine zz_E.jf 7 rfl (by rfl) (by decide) rfl ?_
  refine zz_E.n 8 rfl rfl rfl ?_
  refine zz_E.cl (M' := zm_21) 11 rfl rfl (by decide) rfl rfl ⟨rfl, Nat.le_of_ble_eq_true rfl⟩ rfl ?_
  refine zz_E.n 1 rfl rfl rfl ?_
  refine zz_E.jf 4 rfl (by rfl) (by decide) rfl ?_
  refine zz_E.n 5 rfl rfl rfl ?_
  refine zz_E.n 7 rfl rfl rfl ?_
  refine zz_E.kf 10 rfl (by rfl) (by decide) rfl ?_
  refine zz_E.n 11 rfl rfl rfl ?_
  refine zz_E.n 15 rfl rfl rfl ?_
  refine zz_E.ret rfl rfl rfl ?_
  refine zz_E.jf 14 rfl (by rfl) (by decide) rfl ?_
  refine zz_E.n 15 rfl rfl rfl ?_
  refine zz_E.n 18 rfl rfl rfl ?_
  refine zz_E.n 19 rfl rfl rfl ?_
  refine zz_E.n 20 rfl rfl rfl ?_
  refine zz_E.cl (M' := zm_27) 23 rfl rfl (by decide) rfl rfl ⟨rfl, Nat.le_of_ble_eq_true rfl⟩ rfl ?_
  refine zz_E.n 1 rfl rfl rfl ?_
  refine zz_E.n 4 rfl rfl rfl ?_
  refine zz_E.n 5 rfl rfl rfl ?_
  refine zz_E.n 6 rfl rfl rfl ?_
  refine zz_E.n 7 rfl rfl rfl ?_
  refine zz_E.n 10 rfl rfl rfl ?_
  refine zz_E.n 11 rfl rfl rfl ?_
  refine zz_E.n 12 rfl rfl rfl ?_
  refine zz_E.kf 15 rfl (by rfl) (by decide) rfl ?_
  refine zz_E.n 16 rfl rfl rfl ?_
  refine zz_E.n 20 rfl rfl rfl ?_
  refine zz_E.n 21 rfl rfl rfl ?_
  refine zz_E.n 22 rfl rfl rfl ?_
  refine zz_E.n 24 rfl rfl rfl ?_
  refine zz_E.n 26 rfl rfl rfl ?_
  refine zz_E.n 27 rfl rfl rfl ?_
  refine zz_E.n 30 rfl rfl rfl ?_
  refine zz_E.n 31 rfl rfl rfl ?_
  refine zz_E.n 32 rfl rfl rfl ?_
  refine zz_E.kt 72 rfl (by rfl) (by decide) rfl ?_
  refine zz_E.n 73 rfl rfl rfl ?_
  refine zz_E.ret rfl rfl rfl ?_
  refine zz_E.jf 26 rfl (by rfl) (by decide) rfl ?_
  refine zz_E.n 27 rfl rfl rfl ?_
  refine zz_E.n 31 rfl rfl rfl ?_
  refine zz_E.ret rfl rfl rfl ?_
  refine zz_E.n 594 rfl rfl rfl ?_
  refine zz_E.n 595 rfl rfl rfl ?_
  refine zz_E.n 596 rfl rfl rfl ?_
  refine zz_E.n 597 rfl rfl rfl ?_
  refine zz_E.n 598 rfl rfl rfl ?_
  refine zz_E.n 599 rfl rfl rfl ?_
  refine zz_E.n 600 rfl rfl rfl ?_
  refine zz_E.n 601 rfl rfl rfl ?_
  refine zz_E.n 602 rfl rfl rfl ?_
  refine zz_E.n 603 rfl rfl rfl ?_
  refine zz_E.n 604 rfl rfl rfl ?_
  refine zz_E.cl (M' := zm_82) 607 rfl rfl (by decide) rfl rfl ⟨rfl, Nat.le_of_ble_eq_true rfl⟩ rfl ?_
  refine zz_E.n 1 rfl rfl rfl ?_
  refine zz_E.cl (M' := zm_73) 4 rfl rfl (by decide) rfl rfl ⟨rfl, Nat.le_of_ble_eq_true rfl⟩ rfl ?_
  refine zz_E.n 1 rfl rfl rfl ?_
  refine zz_E.jf 4 rfl (by rfl) (by decide) rfl ?_
  refine zz_E.n 5 rfl rfl rfl ?_
  refine zz_E.n 7 rfl rfl rfl ?_
  refine zz_E.kf 10 rfl (by rfl) (by decide) rfl ?_
  refine zz_E.n 11 rfl rfl rfl ?_
  refine zz_E.n 15 rfl rfl rfl ?_
  refine zz_E.ret rfl rfl rfl ?_
  refine zz_E.jf 7 rfl (by rfl) (by decide) rfl ?_
  refine zz_E.n 8 rfl rfl rfl ?_
  refine zz_E.cl (M' := zm_73) 11 rfl rfl (by decide) rfl rfl ⟨rfl, Nat.le_of_ble_eq_true rfl⟩ rfl ?_
  refine zz_E.n 1 rfl rfl rfl ?_
  refine zz_E.jf 4 rfl (by rfl) (by decide) rfl ?_
  refine zz_E.n 5 rfl rfl rfl ?_
  refine zz_E.n 7 rfl rfl rfl ?_
  refine zz_E.kf 10 rfl (by rfl) (by decide) rfl ?_
  refine zz_E.n 11 rfl rfl rfl ?_
  refine zz_E.n 15 rfl rfl rfl ?_
  refine zz_E.ret rfl rfl rfl ?_
  refine zz_E.jt 16 rfl (by rfl) (by decide) rfl ?_
  refine zz_E.n 19 rfl rfl rfl ?_
  refine zz_E.n 20 rfl rfl rfl ?_
  refine zz_E.n 21 rfl rfl rfl ?_
  refine zz_E.n 22 rfl rfl rfl ?_
  refine zz_E.n 25 rfl rfl rfl ?_
  refine zz_E.n 26 rfl rfl rfl ?_
  refine zz_E.n 27 rfl rfl rfl ?_
  refine zz_E.n 29 rfl rfl rfl ?_
  refine zz_E.n 30 rfl rfl rfl ?_
  refine zz_E.n 33 rfl rfl rfl ?_
  refine zz_E.n 34 rfl rfl rfl ?_
  refine zz_E.n 35 rfl rfl rfl ?_
  refine zz_E.jt 48 rfl (by rfl) (by decide) rfl ?_
  refine zz_E.n 49 rfl rfl rfl ?_
  refine zz_E.n 52 rfl rfl rfl ?_
  refine zz_E.n 53 rfl rfl rfl ?_
  refine zz_E.n 54 rfl rfl rfl ?_
  refine zz_E.n 55 rfl rfl rfl ?_
  refine zz_E.n 58 rfl rfl rfl ?_
  refine zz_E.n 60 rfl rfl rfl ?_
  refine zz_E.n 61 rfl rfl rfl ?_
  refine zz_E.kf 64 rfl (by rfl) (by decide) rfl ?_
  refine zz_E.n 65 rfl rfl rfl ?_
  refine zz_E.n 68 rfl rfl rfl ?_
  refine zz_E.n 69 rfl rfl rfl ?_
  refine zz_E.n 70 rfl rfl rfl ?_
  refine zz_E.jt 93 rfl (by rfl) (by decide) rfl ?_
  refine zz_E.n 94 rfl rfl rfl ?_
  refine zz_E.n 98 rfl rfl rfl ?_
  refine zz_E.ret rfl rfl rfl ?_
  refine zz_E.kt 652 rfl (by rfl) (by decide) rfl ?_
  refine zz_E.n 655 rfl rfl rfl ?_
  refine zz_E.n 18 rfl rfl rfl ?_
  refine zz_E.n 19 rfl rfl rfl ?_
  refine zz_E.n 20 rfl rfl rfl ?_
  refine zz_E.n 21 rfl rfl rfl ?_
  refine zz_E.n 23 rfl rfl rfl ?_
  refine zz_E.n 24 rfl rfl rfl ?_
  refine zz_E.kt 658 rfl (by rfl) (by decide) rfl ?_
  refine zz_E.n 659 rfl rfl rfl ?_
  refine zz_E.ret rfl rfl rfl ?_
  exact ⟨rfl, by decide +kernel, by decide +kernel⟩
set_option maxRecDepth 100000 in
set_option maxHeartbeats 8000000 in
theorem zv_k15_2_7 (xs : Nat → Int32) : zz_E zp_P zt_tf zt_fd (zt_X 6 (fun q => if q = 1 then nI 2 else if q = 2 then nI 7 else xs q)) 1000 zm_law 33 zv_L [.int (nI 15)] zv_h zv_Q := by
  refine zz_E.n 579 rfl rfl rfl ?_
  refine zz_E.n 580 rfl rfl rfl ?_
  refine zz_E.n 581 rfl rfl rfl ?_
  refine zz_E.n 582 rfl rfl rfl ?_
  refine zz_E.n 583 rfl rfl rfl ?_
  refine zz_E.n 584 rfl rfl rfl ?_
  refine zz_E.n 585 rfl rfl rfl ?_
  refine zz_E.n 586 rfl rfl rfl ?_
  refine zz_E.n 587 rfl rfl rfl ?_
  refine zz_E.n 588 rfl rfl rfl ?_
  refine zz_E.n 589 rfl rfl rfl ?_
  refine zz_E.n 590 rfl rfl rfl ?_
  refine zz_E.cl (M' := zm_17) 593 rfl rfl (by decide) rfl rfl ⟨rfl, Nat.le_of_ble_eq_true rfl⟩ rfl ?_
  refine zz_E.n 1 rfl rfl rfl ?_
  refine zz_E.cl (M' := zm_21) 4 rfl rfl (by decide) rfl rfl ⟨rfl, Nat.le_of_ble_eq_true rfl⟩ rfl ?_
  refine zz_E.n 1 rfl rfl rfl ?_
  refine zz_E.jf 4 rfl (by rfl) (by decide) rfl ?_
  refine zz_E.n 5 rfl rfl rfl ?_
  refine zz_E.n 7 rfl rfl rfl ?_
  refine zz_E.kf 10 rfl (by rfl) (by decide) rfl ?_
  refine zz_E.n 11 rfl rfl rfl ?_
  refine zz_E.n 15 rfl rfl rfl ?_
  refine zz_E.ret rfl rfl rfl ?_
  refine zz_E.jf 7 rfl (by rfl) (by decide) rfl ?_
  refine zz_E.n 8 rfl rfl rfl ?_
  refine zz_E.cl (M' := zm_21) 11 rfl rfl (by decide) rfl rfl ⟨rfl, Nat.le_of_ble_eq_true rfl⟩ rfl ?_
  refine zz_E.n 1 rfl rfl rfl ?_
  refine zz_E.jf 4 rfl (by rfl) (by decide) rfl ?_
  refine zz_E.n 5 rfl rfl rfl ?_
  refine zz_E.n 7 rfl rfl rfl ?_
  refine zz_E.kf 10 rfl (by rfl) (by decide) rfl ?_
  refine zz_E.n 11 rfl rfl rfl ?_
  refine zz_E.n 15 rfl rfl rfl ?_
  refine zz_E.ret rfl rfl rfl ?_
  refine zz_E.jf 14 rfl (by rfl) (by decide) rfl ?_
  refine zz_E.n 15 rfl rfl rfl ?_
  refine zz_E.n 18 rfl rfl rfl ?_
  refine zz_E.n 19 rfl rfl rfl ?_
  refine zz_E.n 20 rfl rfl rfl ?_
  refine zz_E.cl (M' := zm_27) 23 rfl rfl (by decide) rfl rfl ⟨rfl, Nat.le_of_ble_eq_true rfl⟩ rfl ?_
  refine zz_E.n 1 rfl rfl rfl ?_
  refine zz_E.n 4 rfl rfl rfl ?_
  refine zz_E.n 5 rfl rfl rfl ?_
  refine zz_E.n 6 rfl rfl rfl ?_
  refine zz_E.n 7 rfl rfl rfl ?_
  refine zz_E.n 10 rfl rfl rfl ?_
  refine zz_E.n 11 rfl rfl rfl ?_
  refine zz_E.n 12 rfl rfl rfl ?_
  refine zz_E.kf 15 rfl (by rfl) (by decide) rfl ?_
  refine zz_E.n 16 rfl rfl rfl ?_
  refine zz_E.n 20 rfl rfl rfl ?_
  refine zz_E.n 21 rfl rfl rfl ?_
  refine zz_E.n 22 rfl rfl rfl ?_
  refine zz_E.n 24 rfl rfl rfl ?_
  refine zz_E.n 26 rfl rfl rfl ?_
  refine zz_E.n 27 rfl rfl rfl ?_
  refine zz_E.n 30 rfl rfl rfl ?_
  refine zz_E.n 31 rfl rfl rfl ?_
  refine zz_E.n 32 rfl rfl rfl ?_
  refine zz_E.kt 72 rfl (by rfl) (by decide) rfl ?_
  refine zz_E.n 73 rfl rfl rfl ?_
  refine zz_E.ret rfl rfl rfl ?_
  refine zz_E.jf 26 rfl (by rfl) (by decide) rfl ?_
  refine zz_E.n 27 rfl rfl rfl ?_
  refine zz_E.n 31 rfl rfl rfl ?_
  refine zz_E.ret rfl rfl rfl ?_
  refine zz_E.n 594 rfl rfl rfl ?_
  refine zz_E.n 595 rfl rfl rfl ?_
  refine zz_E.n 596 rfl rfl rfl ?_
  refine zz_E.n 597 rfl rfl rfl ?_
  refine zz_E.n 598 rfl rfl rfl ?_
  refine zz_E.n 599 rfl rfl rfl ?_
  refine zz_E.n 600 rfl rfl rfl ?_
  refine zz_E.n 601 rfl rfl rfl ?_
  refine zz_E.n 602 rfl rfl rfl ?_
  refine zz_E.n 603 rfl rfl rfl ?_
  refine zz_E.n 604 rfl rfl rfl ?_
  refine zz_E.cl (M' := zm_82) 607 rfl rfl (by decide) rfl rfl ⟨rfl, Nat.le_of_ble_eq_true rfl⟩ rfl ?_
  refine zz_E.n 1 rfl rfl rfl ?_
  refine zz_E.cl (M' := zm_73) 4 rfl rfl (by decide) rfl rfl ⟨rfl, Nat.le_of_ble_eq_true rfl⟩ rfl ?_
  refine zz_E.n 1 rfl rfl rfl ?_
  refine zz_E.jf 4 rfl (by rfl) (by decide) rfl ?_
  refine zz_E.n 5 rfl rfl rfl ?_
  refine zz_E.n 7 rfl rfl rfl ?_
  refine zz_E.kf 10 rfl (by rfl) (by decide) rfl ?_
  refine zz_E.n 11 rfl rfl rfl ?_
  refine zz_E.n 15 rfl rfl rfl ?_
  refine zz_E.ret rfl rfl rfl ?_
  refine zz_E.jf 7 rfl (by rfl) (by decide) rfl ?_
  refine zz_E.n 8 rfl rfl rfl ?_
  refine zz_E.cl (M' := zm_73) 11 rfl rfl (by decide) rfl rfl ⟨rfl, Nat.le_of_ble_eq_true rfl⟩ rfl ?_
  refine zz_E.n 1 rfl rfl rfl ?_
  refine zz_E.jf 4 rfl (by rfl) (by decide) rfl ?_
  refine zz_E.n 5 rfl rfl rfl ?_
  refine zz_E.n 7 rfl rfl rfl ?_
  refine zz_E.kf 10 rfl (by rfl) (by decide) rfl ?_
  refine zz_E.n 11 rfl rfl rfl ?_
  refine zz_E.n 15 rfl rfl rfl ?_
  refine zz_E.ret rfl rfl rfl ?_
  refine zz_E.jt 16 rfl (by rfl) (by decide) rfl ?_
  refine zz_E.n 19 rfl rfl rfl ?_
  refine zz_E.n 20 rfl rfl rfl ?_
  refine zz_E.n 21 rfl rfl rfl ?_
  refine zz_E.n 22 rfl rfl rfl ?_
  refine zz_E.n 25 rfl rfl rfl ?_
  refine zz_E.n 26 rfl rfl rfl ?_
  refine zz_E.n 27 rfl rfl rfl ?_
  refine zz_E.n 29 rfl rfl rfl ?_
  refine zz_E.n 30 rfl rfl rfl ?_
  refine zz_E.n 33 rfl rfl rfl ?_
  refine zz_E.n 34 rfl rfl rfl ?_
  refine zz_E.n 35 rfl rfl rfl ?_
  refine zz_E.jt 48 rfl (by rfl) (by decide) rfl ?_
  refine zz_E.n 49 rfl rfl rfl ?_
  refine zz_E.n 52 rfl rfl rfl ?_
  refine zz_E.n 53 rfl rfl rfl ?_
  refine zz_E.n 54 rfl rfl rfl ?_
  refine zz_E.n 55 rfl rfl rfl ?_
  refine zz_E.n 58 rfl rfl rfl ?_
  refine zz_E.n 60 rfl rfl rfl ?_
  refine zz_E.n 61 rfl rfl rfl ?_
  refine zz_E.kf 64 rfl (by rfl) (by decide) rfl ?_
  refine zz_E.n 65 rfl rfl rfl ?_
  refine zz_E.n 68 rfl rfl rfl ?_
  refine zz_E.n 69 rfl rfl rfl ?_
  refine zz_E.n 70 rfl rfl rfl ?_
  refine zz_E.jt 93 rfl (by rfl) (by decide) rfl ?_
  refine zz_E.n 94 rfl rfl rfl ?_
  refine zz_E.n 98 rfl rfl rfl ?_
  refine zz_E.ret rfl rfl rfl ?_
  refine zz_E.kt 652 rfl (by rfl) (by decide) rfl ?_
  refine zz_E.n 655 rfl rfl rfl ?_
  refine zz_E.n 18 rfl rfl rfl ?_
  refine zz_E.n 19 rfl rfl rfl ?_
  refine zz_E.n 20 rfl rfl rfl ?_
  refine zz_E.n 21 rfl rfl rfl ?_
  refine zz_E.n 23 rfl rfl rfl ?_
  refine zz_E.n 24 rfl rfl rfl ?_
  refine zz_E.kt 658 rfl (by rfl) (by decide) rfl ?_
  refine zz_E.n 659 rfl rfl rfl ?_
  refine zz_E.ret rfl rfl rfl ?_
  exact ⟨rfl, by decide +kernel, by decide +kernel⟩
set_option maxRecDepth 100000 in
set_option maxHeartbeats 8000000 in
theorem zv_k15_3_0 (xs : Nat → Int32) : zz_E zp_P zt_tf zt_fd (zt_X 6 (fun q => if q = 1 then nI 3 else if q = 2 then nI 0 else xs q)) 1000 zm_law 33 zv_L [.int (nI 15)] zv_h zv_Q := by
  refine zz_E.n 579 rfl rfl rfl ?_
  refine zz_E.n 580 rfl rfl rfl ?_
  refine zz_E.n 581 rfl rfl rfl ?_
  refine zz_E.n 582 rfl rfl rfl ?_
  refine zz_E.n 583 rfl rfl rfl ?_
  refine zz_E.n 584 rfl rfl rfl ?_
  refine zz_E.n 585 rfl rfl rfl ?_
  refine zz_E.n 586 rfl rfl rfl ?_
  refine zz_E.n 587 rfl rfl rfl ?_
  refine zz_E.n 588 rfl rfl rfl ?_
  refine zz_E.n 589 rfl rfl rfl ?_
  refine zz_E.n 590 rfl rfl rfl ?_
  refine zz_E.cl (M' := zm_17) 593 rfl rfl (by decide) rfl rfl ⟨rfl, Nat.le_of_ble_eq_true rfl⟩ rfl ?_
  refine zz_E.n 1 rfl rfl rfl ?_
  refine zz_E.cl (M' := zm_21) 4 rfl rfl (by decide) rfl rfl ⟨rfl, Nat.le_of_ble_eq_true rfl⟩ rfl ?_
  refine zz_E.n 1 rfl rfl rfl ?_
  refine zz_E.jf 4 rfl (by rfl) (by decide) rfl ?_
  refine zz_E.n 5 rfl rfl rfl ?_
  refine zz_E.n 7 rfl rfl rfl ?_
  refine zz_E.kf 10 rfl (by rfl) (by decide) rfl ?_
  refine zz_E.n 11 rfl rfl rfl ?_
  refine zz_E.n 15 rfl rfl rfl ?_
  refine zz_E.ret rfl rfl rfl ?_
  refine zz_E.jf 7 rfl (by rfl) (by decide) rfl ?_
  refine zz_E.n 8 rfl rfl rfl ?_
  refine zz_E.cl (M' := zm_21) 11 rfl rfl (by decide) rfl rfl ⟨rfl, Nat.le_of_ble_eq_true rfl⟩ rfl ?_
  refine zz_E.n 1 rfl rfl rfl ?_
  refine zz_E.jf 4 rfl (by rfl) (by decide) rfl ?_
  refine zz_E.n 5 rfl rfl rfl ?_
  refine zz_E.n 7 rfl rfl rfl ?_
  refine zz_E.kf 10 rfl (by rfl) (by decide) rfl ?_
  refine zz_E.n 11 rfl rfl rfl ?_
  refine zz_E.n 15 rfl rfl rfl ?_
  refine zz_E.ret rfl rfl rfl ?_
  refine zz_E.jf 14 rfl (by rfl) (by decide) rfl ?_
  refine zz_E.n 15 rfl rfl rfl ?_
  refine zz_E.n 18 rfl rfl rfl ?_
  refine zz_E.n 19 rfl rfl rfl ?_
  refine zz_E.n 20 rfl rfl rfl ?_
  refine zz_E.cl (M' := zm_27) 23 rfl rfl (by decide) rfl rfl ⟨rfl, Nat.le_of_ble_eq_true rfl⟩ rfl ?_
  refine zz_E.n 1 rfl rfl rfl ?_
  refine zz_E.n 4 rfl rfl rfl ?_
  refine zz_E.n 5 rfl rfl rfl ?_
  refine zz_E.n 6 rfl rfl rfl ?_
  refine zz_E.n 7 rfl rfl rfl ?_
  refine zz_E.n 10 rfl rfl rfl ?_
  refine zz_E.n 11 rfl rfl rfl ?_
  refine zz_E.n 12 rfl rfl rfl ?_
  refine zz_E.kf 15 rfl (by rfl) (by decide) rfl ?_
  refine zz_E.n 16 rfl rfl rfl ?_
  refine zz_E.n 20 rfl rfl rfl ?_
  refine zz_E.n 21 rfl rfl rfl ?_
  refine zz_E.n 22 rfl rfl rfl ?_
  refine zz_E.n 24 rfl rfl rfl ?_
  refine zz_E.n 26 rfl rfl rfl ?_
  refine zz_E.n 27 rfl rfl rfl ?_
  refine zz_E.n 30 rfl rfl rfl ?_
  refine zz_E.n 31 rfl rfl rfl ?_
  refine zz_E.n 32 rfl rfl rfl ?_
  refine zz_E.kt 72 rfl (by rfl) (by decide) rfl ?_
  refine zz_E.n 73 rfl rfl rfl ?_
  refine zz_E.ret rfl rfl rfl ?_
  refine zz_E.jf 26 rfl (by rfl) (by decide) rfl ?_
  refine zz_E.n 27 rfl rfl rfl ?_
  refine zz_E.n 31 rfl rfl rfl ?_
  refine zz_E.ret rfl rfl rfl ?_
  refine zz_E.n 594 rfl rfl rfl ?_
  refine zz_E.n 595 rfl rfl rfl ?_
  refine zz_E.n 596 rfl rfl rfl ?_
  refine zz_E.n 597 rfl rfl rfl ?_
  refine zz_E.n 598 rfl rfl rfl ?_
  refine zz_E.n 599 rfl rfl rfl ?_
  refine zz_E.n 600 rfl rfl rfl ?_
  refine zz_E.n 601 rfl rfl rfl ?_
  refine zz_E.n 602 rfl rfl rfl ?_
  refine zz_E.n 603 rfl rfl rfl ?_
  refine zz_E.n 604 rfl rfl rfl ?_
  refine zz_E.cl (M' := zm_82) 607 rfl rfl (by decide) rfl rfl ⟨rfl, Nat.le_of_ble_eq_true rfl⟩ rfl ?_
  refine zz_E.n 1 rfl rfl rfl ?_
  refine zz_E.cl (M' := zm_73) 4 rfl rfl (by decide) rfl rfl ⟨rfl, Nat.le_of_ble_eq_true rfl⟩ rfl ?_
  refine zz_E.n 1 rfl rfl rfl ?_
  refine zz_E.jf 4 rfl (by rfl) (by decide) rfl ?_
  refine zz_E.n 5 rfl rfl rfl ?_
  refine zz_E.n 7 rfl rfl rfl ?_
  refine zz_E.kf 10 rfl (by rfl) (by decide) rfl ?_
  refine zz_E.n 11 rfl rfl rfl ?_
  refine zz_E.n 15 rfl rfl rfl ?_
  refine zz_E.ret rfl rfl rfl ?_
  refine zz_E.jf 7 rfl (by rfl) (by decide) rfl ?_
  refine zz_E.n 8 rfl rfl rfl ?_
  refine zz_E.cl (M' := zm_73) 11 rfl rfl (by decide) rfl rfl ⟨rfl, Nat.le_of_ble_eq_true rfl⟩ rfl ?_
  refine zz_E.n 1 rfl rfl rfl ?_
  refine zz_E.jf 4 rfl (by rfl) (by decide) rfl ?_
  refine zz_E.n 5 rfl rfl rfl ?_
  refine zz_E.n 7 rfl rfl rfl ?_
  refine zz_E.kf 10 rfl (by rfl) (by decide) rfl ?_
  refine zz_E.n 11 rfl rfl rfl ?_
  refine zz_E.n 15 rfl rfl rfl ?_
  refine zz_E.ret rfl rfl rfl ?_
  refine zz_E.jt 16 rfl (by rfl) (by decide) rfl ?_
  refine zz_E.n 19 rfl rfl rfl ?_
  refine zz_E.n 20 rfl rfl rfl ?_
  refine zz_E.n 21 rfl rfl rfl ?_
  refine zz_E.n 22 rfl rfl rfl ?_
  refine zz_E.n 25 rfl rfl rfl ?_
  refine zz_E.n 26 rfl rfl rfl ?_
  refine zz_E.n 27 rfl rfl rfl ?_
  refine zz_E.n 29 rfl rfl rfl ?_
  refine zz_E.n 30 rfl rfl rfl ?_
  refine zz_E.n 33 rfl rfl rfl ?_
  refine zz_E.n 34 rfl rfl rfl ?_
  refine zz_E.n 35 rfl rfl rfl ?_
  refine zz_E.jt 48 rfl (by rfl) (by decide) rfl ?_
  refine zz_E.n 49 rfl rfl rfl ?_
  refine zz_E.n 52 rfl rfl rfl ?_
  refine zz_E.n 53 rfl rfl rfl ?_
  refine zz_E.n 54 rfl rfl rfl ?_
  refine zz_E.n 55 rfl rfl rfl ?_
  refine zz_E.n 58 rfl rfl rfl ?_
  refine zz_E.n 60 rfl rfl rfl ?_
  refine zz_E.n 61 rfl rfl rfl ?_
  refine zz_E.kf 64 rfl (by rfl) (by decide) rfl ?_
  refine zz_E.n 65 rfl rfl rfl ?_
  refine zz_E.n 68 rfl rfl rfl ?_
  refine zz_E.n 69 rfl rfl rfl ?_
  refine zz_E.n 70 rfl rfl rfl ?_
  refine zz_E.jt 93 rfl (by rfl) (by decide) rfl ?_
  refine zz_E.n 94 rfl rfl rfl ?_
  refine zz_E.n 98 rfl rfl rfl ?_
  refine zz_E.ret rfl rfl rfl ?_
  refine zz_E.kt 652 rfl (by rfl) (by decide) rfl ?_
  refine zz_E.n 655 rfl rfl rfl ?_
  refine zz_E.n 18 rfl rfl rfl ?_
  refine zz_E.n 19 rfl rfl rfl ?_
  refine zz_E.n 20 rfl rfl rfl ?_
  refine zz_E.n 21 rfl rfl rfl ?_
  refine zz_E.n 23 rfl rfl rfl ?_
  refine zz_E.n 24 rfl rfl rfl ?_
  refine zz_E.kt 658 rfl (by rfl) (by decide) rfl ?_
  refine zz_E.n 659 rfl rfl rfl ?_
  refine zz_E.ret rfl rfl rfl ?_
  exact ⟨rfl, by decide +kernel, by decide +kernel⟩
set_option maxRecDepth 100000 in
set_option maxHeartbeats 8000000 in
theorem zv_k15_3_1 (xs : Nat → Int32) : zz_E zp_P zt_tf zt_fd (zt_X 6 (fun q => if q = 1 then nI 3 else if q = 2 then nI 1 else xs q)) 1000 zm_law 33 zv_L [.int (nI 15)] zv_h zv_Q := by
  refine zz_E.n 579 rfl rfl rfl ?_
  refine zz_E.n 580 rfl rfl rfl ?_
  refine zz_E.n 581 rfl rfl rfl ?_
  refine zz_E.n 582 rfl rfl rfl ?_
  refine zz_E.n 583 rfl rfl rfl ?_
  refine zz_E.n 584 rfl rfl rfl ?_
  refine zz_E.n 585 rfl rfl rfl ?_
  refine zz_E.n 586 rfl rfl rfl ?_
  refine zz_E.n 587 rfl rfl rfl ?_
  refine zz_E.n 588 rfl rfl rfl ?_
  refine zz_E.n 589 rfl rfl rfl ?_
  refine zz_E.n 590 rfl rfl rfl ?_
  refine zz_E.cl (M' := zm_17) 593 rfl rfl (by decide) rfl rfl ⟨rfl, Nat.le_of_ble_eq_true rfl⟩ rfl ?_
  refine zz_E.n 1 rfl rfl rfl ?_
  refine zz_E.cl (M' := zm_21) 4 rfl rfl (by decide) rfl rfl ⟨rfl, Nat.le_of_ble_eq_true rfl⟩ rfl ?_
  refine zz_E.n 1 rfl rfl rfl ?_
  refine zz_E.jf 4 rfl (by rfl) (by decide) rfl ?_
  refine zz_E.n 5 rfl rfl rfl ?_
  refine zz_E.n 7 rfl rfl rfl ?_
  refine zz_E.kf 10 rfl (by rfl) (by decide) rfl ?_
  refine zz_E.n 11 rfl rfl rfl ?_
  refine zz_E.n 15 rfl rfl rfl ?_
  refine zz_E.ret rfl rfl rfl ?_
  refine zz_E.jf 7 rfl (by rfl) (by decide) rfl ?_
  refine zz_E.n 8 rfl rfl rfl ?_
  refine zz_E.cl (M' := zm_21) 11 rfl rfl (by decide) rfl rfl ⟨rfl, Nat.le_of_ble_eq_true rfl⟩ rfl ?_
  refine zz_E.n 1 rfl rfl rfl ?_
  refine zz_E.jf 4 rfl (by rfl) (by decide) rfl ?_
  refine zz_E.n 5 rfl rfl rfl ?_
  refine zz_E.n 7 rfl rfl rfl ?_
  refine zz_E.kf 10 rfl (by rfl) (by decide) rfl ?_
  refine zz_E.n 11 rfl rfl rfl ?_
  refine zz_E.n 15 rfl rfl rfl ?_
  refine zz_E.ret rfl rfl rfl ?_
  refine zz_E.jf 14 rfl (by rfl) (by decide) rfl ?_
  refine zz_E.n 15 rfl rfl rfl ?_
  refine zz_E.n 18 rfl rfl rfl ?_
  refine zz_E.n 19 rfl rfl rfl ?_
  refine zz_E.n 20 rfl rfl rfl ?_
  refine zz_E.cl (M' := zm_27) 23 rfl rfl (by decide) rfl rfl ⟨rfl, Nat.le_of_ble_eq_true rfl⟩ rfl ?_
  refine zz_E.n 1 rfl rfl rfl ?_
  refine zz_E.n 4 rfl rfl rfl ?_
  refine zz_E.n 5 rfl rfl rfl ?_
  refine zz_E.n 6 rfl rfl rfl ?_
  refine zz_E.n 7 rfl rfl rfl ?_
  refine zz_E.n 10 rfl rfl rfl ?_
  refine zz_E.n 11 rfl rfl rfl ?_
  refine zz_E.n 12 rfl rfl rfl ?_
  refine zz_E.kf 15 rfl (by rfl) (by decide) rfl ?_
  refine zz_E.n 16 rfl rfl rfl ?_
  refine zz_E.n 20 rfl rfl rfl ?_
  refine zz_E.n 21 rfl rfl rfl ?_
  refine zz_E.n 22 rfl rfl rfl ?_
  refine zz_E.n 24 rfl rfl rfl ?_
  refine zz_E.n 26 rfl rfl rfl ?_
  refine zz_E.n 27 rfl rfl rfl ?_
  refine zz_E.n 30 rfl rfl rfl ?_
  refine zz_E.n 31 rfl rfl rfl ?_
  refine zz_E.n 32 rfl rfl rfl ?_
  refine zz_E.kt 72 rfl (by rfl) (by decide) rfl ?_
  refine zz_E.n 73 rfl rfl rfl ?_
  refine zz_E.ret rfl rfl rfl ?_
  refine zz_E.jf 26 rfl (by rfl) (by decide) rfl ?_
  refine zz_E.n 27 rfl rfl rfl ?_
  refine zz_E.n 31 rfl rfl rfl ?_
  refine zz_E.ret rfl rfl rfl ?_
  refine zz_E.n 594 rfl rfl rfl ?_
  refine zz_E.n 595 rfl rfl rfl ?_
  refine zz_E.n 596 rfl rfl rfl ?_
  refine zz_E.n 597 rfl rfl rfl ?_
  refine zz_E.n 598 rfl rfl rfl ?_
  refine zz_E.n 599 rfl rfl rfl ?_
  refine zz_E.n 600 rfl rfl rfl ?_
  refine zz_E.n 601 rfl rfl rfl ?_
  refine zz_E.n 602 rfl rfl rfl ?_
  refine zz_E.n 603 rfl rfl rfl ?_
  refine zz_E.n 604 rfl rfl rfl ?_
  refine zz_E.cl (M' := zm_82) 607 rfl rfl (by decide) rfl rfl ⟨rfl, Nat.le_of_ble_eq_true rfl⟩ rfl ?_
  refine zz_E.n 1 rfl rfl rfl ?_
  refine zz_E.cl (M' := zm_73) 4 rfl rfl (by decide) rfl rfl ⟨rfl, Nat.le_of_ble_eq_true rfl⟩ rfl ?_
  refine zz_E.n 1 rfl rfl rfl ?_
  refine zz_E.jf 4 rfl (by rfl) (by decide) rfl ?_
  refine zz_E.n 5 rfl rfl rfl ?_
  refine zz_E.n 7 rfl rfl rfl ?_
  refine zz_E.kf 10 rfl (by rfl) (by decide) rfl ?_
  refine zz_E.n 11 rfl rfl rfl ?_
  refine zz_E.n 15 rfl rfl rfl ?_
  refine zz_E.ret rfl rfl rfl ?_
  refine zz_E.jf 7 rfl (by rfl) (by decide) rfl ?_
  refine zz_E.n 8 rfl rfl rfl ?_
  refine zz_E.cl (M' := zm_73) 11 rfl rfl (by decide) rfl rfl ⟨rfl, Nat.le_of_ble_eq_true rfl⟩ rfl ?_
  refine zz_E.n 1 rfl rfl rfl ?_
  refine zz_E.jf 4 rfl (by rfl) (by decide) rfl ?_
  refine zz_E.n 5 rfl rfl rfl ?_
  refine zz_E.n 7 rfl rfl rfl ?_
  refine zz_E.kf 10 rfl (by rfl) (by decide) rfl ?_
  refine zz_E.n 11 rfl rfl rfl ?_
  refine zz_E.n 15 rfl rfl rfl ?_
  refine zz_E.ret rfl rfl rfl ?_
  refine zz_E.jt 16 rfl (by rfl) (by decide) rfl ?_
  refine zz_E.n 19 rfl rfl rfl ?_
  refine zz_E.n 20 rfl rfl rfl ?_
  refine zz_E.n 21 rfl rfl rfl ?_
  refine zz_E.n 22 rfl rfl rfl ?_
  refine zz_E.n 25 rfl rfl rfl ?_
  refine zz_E.n 26 rfl rfl rfl ?_
  refine zz_E.n 27 rfl rfl rfl ?_
  refine zz_E.n 29 rfl rfl rfl ?_
  refine zz_E.n 30 rfl rfl rfl ?_
  refine zz_E.n 33 rfl rfl rfl ?_
  refine zz_E.n 34 rfl rfl rfl ?_
  refine zz_E.n 35 rfl rfl rfl ?_
  refine zz_E.jt 48 rfl (by rfl) (by decide) rfl ?_
  refine zz_E.n 49 rfl rfl rfl ?_
  refine zz_E.n 52 rfl rfl rfl ?_
  refine zz_E.n 53 rfl rfl rfl ?_
  refine zz_E.n 54 rfl rfl rfl ?_
  refine zz_E.n 55 rfl rfl rfl ?_
  refine zz_E.n 58 rfl rfl rfl ?_
  refine zz_E.n 60 rfl rfl rfl ?_
  refine zz_E.n 61 rfl rfl rfl ?_
  refine zz_E.kf 64 rfl (by rfl) (by decide) rfl ?_
  refine zz_E.n 65 rfl rfl rfl ?_
  refine zz_E.n 68 rfl rfl rfl ?_
  refine zz_E.n 69 rfl rfl rfl ?_
  refine zz_E.n 70 rfl rfl rfl ?_
  refine zz_E.jt 93 rfl (by rfl) (by decide) rfl ?_
  refine zz_E.n 94 rfl rfl rfl ?_
  refine zz_E.n 98 rfl rfl rfl ?_
  refine zz_E.ret rfl rfl rfl ?_
  refine zz_E.kt 652 rfl (by rfl) (by decide) rfl ?_
  refine zz_E.n 655 rfl rfl rfl ?_
  refine zz_E.n 18 rfl rfl rfl ?_
  refine zz_E.n 19 rfl rfl rfl ?_
  refine zz_E.n 20 rfl rfl rfl ?_
  refine zz_E.n 21 rfl rfl rfl ?_
  refine zz_E.n 23 rfl rfl rfl ?_
  refine zz_E.n 24 rfl rfl rfl ?_
  refine zz_E.kt 658 rfl (by rfl) (by decide) rfl ?_
  refine zz_E.n 659 rfl rfl rfl ?_
  refine zz_E.ret rfl rfl rfl ?_
  exact ⟨rfl, by decide +kernel, by decide +kernel⟩
set_option maxRecDepth 100000 in
set_option maxHeartbeats 8000000 in
theorem zv_k15_3_2 (xs : Nat → Int32) : zz_E zp_P zt_tf zt_fd (zt_X 6 (fun q => if q = 1 then nI 3 else if q = 2 then nI 2 else xs q)) 1000 zm_law 33 zv_L [.int (nI 15)] zv_h zv_Q := by
  refine zz_E.n 579 rfl rfl rfl ?_
  refine zz_E.n 580 rfl rfl rfl ?_
  refine zz_E.n 581 rfl rfl rfl ?_
  refine zz_E.n 582 rfl rfl rfl ?_
  refine zz_E.n 583 rfl rfl rfl ?_
  refine zz_E.n 584 rfl rfl rfl ?_
  refine zz_E.n 585 rfl rfl rfl ?_
  refine zz_E.n 586 rfl rfl rfl ?_
  refine zz_E.n 587 rfl rfl rfl ?_
  refine zz_E.n 588 rfl rfl rfl ?_
  refine zz_E.n 589 rfl rfl rfl ?_
  refine zz_E.n 590 rfl rfl rfl ?_
  refine zz_E.cl (M' := zm_17) 593 rfl rfl (by decide) rfl rfl ⟨rfl, Nat.le_of_ble_eq_true rfl⟩ rfl ?_
  refine zz_E.n 1 rfl rfl rfl ?_
  refine zz_E.cl (M' := zm_21) 4 rfl rfl (by decide) rfl rfl ⟨rfl, Nat.le_of_ble_eq_true rfl⟩ rfl ?_
  refine zz_E.n 1 rfl rfl rfl ?_
  refine zz_E.jf 4 rfl (by rfl) (by decide) rfl ?_
  refine zz_E.n 5 rfl rfl rfl ?_
  refine zz_E.n 7 rfl rfl rfl ?_
  refine zz_E.kf 10 rfl (by rfl) (by decide) rfl ?_
  refine zz_E.n 11 rfl rfl rfl ?_
  refine zz_E.n 15 rfl rfl rfl ?_
  refine zz_E.ret rfl rfl rfl ?_
  refine zz_E.jf 7 rfl (by rfl) (by decide) rfl ?_
  refine zz_E.n 8 rfl rfl rfl ?_
  refine zz_E.cl (M' := zm_21) 11 rfl rfl (by decide) rfl rfl ⟨rfl, Nat.le_of_ble_eq_true rfl⟩ rfl ?_
  refine zz_E.n 1 rfl rfl rfl ?_
  refine zz_E.jf 4 rfl (by rfl) (by decide) rfl ?_
  refine zz_E.n 5 rfl rfl rfl ?_
  refine zz_E.n 7 rfl rfl rfl ?_
  refine zz_E.kf 10 rfl (by rfl) (by decide) rfl ?_
  refine zz_E.n 11 rfl rfl rfl ?_
  refine zz_E.n 15 rfl rfl rfl ?_
  refine zz_E.ret rfl rfl rfl ?_
  refine zz_E.jf 14 rfl (by rfl) (by decide) rfl ?_
  refine zz_E.n 15 rfl rfl rfl ?_
  refine zz_E.n 18 rfl rfl rfl ?_
  refine zz_E.n 19 rfl rfl rfl ?_
  refine zz_E.n 20 rfl rfl rfl ?_
  refine zz_E.cl (M' := zm_27) 23 rfl rfl (by decide) rfl rfl ⟨rfl, Nat.le_of_ble_eq_true rfl⟩ rfl ?_
  refine zz_E.n 1 rfl rfl rfl ?_
  refine zz_E.n 4 rfl rfl rfl ?_
  refine zz_E.n 5 rfl rfl rfl ?_
  refine zz_E.n 6 rfl rfl rfl ?_
  refine zz_E.n 7 rfl rfl rfl ?_
  refine zz_E.n 10 rfl rfl rfl ?_
  refine zz_E.n 11 rfl rfl rfl ?_
  refine zz_E.n 12 rfl rfl rfl ?_
  refine zz_E.kf 15 rfl (by rfl) (by decide) rfl ?_
  refine zz_E.n 16 rfl rfl rfl ?_
  refine zz_E.n 20 rfl rfl rfl ?_
  refine zz_E.n 21 rfl rfl rfl ?_
  refine zz_E.n 22 rfl rfl rfl ?_
  refine zz_E.n 24 rfl rfl rfl ?_
  refine zz_E.n 26 rfl rfl rfl ?_
  refine zz_E.n 27 rfl rfl rfl ?_
  refine zz_E.n 30 rfl rfl rfl ?_
  refine zz_E.n 31 rfl rfl rfl ?_
  refine zz_E.n 32 rfl rfl rfl ?_
  refine zz_E.kt 72 rfl (by rfl) (by decide) rfl ?_
  refine zz_E.n 73 rfl rfl rfl ?_
  refine zz_E.ret rfl rfl rfl ?_
  refine zz_E.jf 26 rfl (by rfl) (by decide) rfl ?_
  refine zz_E.n 27 rfl rfl rfl ?_
  refine zz_E.n 31 rfl rfl rfl ?_
  refine zz_E.ret rfl rfl rfl ?_
  refine zz_E.n 594 rfl rfl rfl ?_
  refine zz_E.n 595 rfl rfl rfl ?_
  refine zz_E.n 596 rfl rfl rfl ?_
  refine zz_E.n 597 rfl rfl rfl ?_
  refine zz_E.n 598 rfl rfl rfl ?_
  refine zz_E.n 599 rfl rfl rfl ?_
  refine zz_E.n 600 rfl rfl rfl ?_
  refine zz_E.n 601 rfl rfl rfl ?_
  refine zz_E.n 602 rfl rfl rfl ?_
  refine zz_E.n 603 rfl rfl rfl ?_
  refine zz_E.n 604 rfl rfl rfl ?_
  refine zz_E.cl (M' := zm_82) 607 rfl rfl (by decide) rfl rfl ⟨rfl, Nat.le_of_ble_eq_true rfl⟩ rfl ?_
  refine zz_E.n 1 rfl rfl rfl ?_
  refine zz_E.cl (M' := zm_73) 4 rfl rfl (by decide) rfl rfl ⟨rfl, Nat.le_of_ble_eq_true rfl⟩ rfl ?_
  refine zz_E.n 1 rfl rfl rfl ?_
  refine zz_E.jf 4 rfl (by rfl) (by decide) rfl ?_
  refine zz_E.n 5 rfl rfl rfl ?_
  refine zz_E.n 7 rfl rfl rfl ?_
  refine zz_E.kf 10 rfl (by rfl) (by decide) rfl ?_
  refine zz_E.n 11 rfl rfl rfl ?_
  refine zz_E.n 15 rfl rfl rfl ?_
  refine zz_E.ret rfl rfl rfl ?_
  refine zz_E.jf 7 rfl (by rfl) (by decide) rfl ?_
  refine zz_E.n 8 rfl rfl rfl ?_
  refine zz_E.cl (M' := zm_73) 11 rfl rfl (by decide) rfl rfl ⟨rfl, Nat.le_of_ble_eq_true rfl⟩ rfl ?_
  refine zz_E.n 1 rfl rfl rfl ?_
  refine zz_E.jf 4 rfl (by rfl) (by decide) rfl ?_
  refine zz_E.n 5 rfl rfl rfl ?_
  refine zz_E.n 7 rfl rfl rfl ?_
  refine zz_E.kf 10 rfl (by rfl) (by decide) rfl ?_
  refine zz_E.n 11 rfl rfl rfl ?_
  refine zz_E.n 15 rfl rfl rfl ?_
  refine zz_E.ret rfl rfl rfl ?_
  refine zz_E.jt 16 rfl (by rfl) (by decide) rfl ?_
  refine zz_E.n 19 rfl rfl rfl ?_
  refine zz_E.n 20 rfl rfl rfl ?_
  refine zz_E.n 21 rfl rfl rfl ?_
  refine zz_E.n 22 rfl rfl rfl ?_
  refine zz_E.n 25 rfl rfl rfl ?_
  refine zz_E.n 26 rfl rfl rfl ?_
  refine zz_E.n 27 rfl rfl rfl ?_
  refine zz_E.n 29 rfl rfl rfl ?_
  refine zz_E.n 30 rfl rfl rfl ?_
  refine zz_E.n 33 rfl rfl rfl ?_
  refine zz_E.n 34 rfl rfl rfl ?_
  refine zz_E.n 35 rfl rfl rfl ?_
  refine zz_E.jt 48 rfl (by rfl) (by decide) rfl ?_
  refine zz_E.n 49 rfl rfl rfl ?_
  refine zz_E.n 52 rfl rfl rfl ?_
  refine zz_E.n 53 rfl rfl rfl ?_
  refine zz_E.n 54 rfl rfl rfl ?_
  refine zz_E.n 55 rfl rfl rfl ?_
  refine zz_E.n 58 rfl rfl rfl ?_
  refine zz_E.n 60 rfl rfl rfl ?_
  refine zz_E.n 61 rfl rfl rfl ?_
  refine zz_E.kf 64 rfl (by rfl) (by decide) rfl ?_
  refine zz_E.n 65 rfl rfl rfl ?_
  refine zz_E.n 68 rfl rfl rfl ?_
  refine zz_E.n 69 rfl rfl rfl ?_
  refine zz_E.n 70 rfl rfl rfl ?_
  refine zz_E.jt 93 rfl (by rfl) (by decide) rfl ?_
  refine zz_E.n 94 rfl rfl rfl ?_
  refine zz_E.n 98 rfl rfl rfl ?_
  refine zz_E.ret rfl rfl rfl ?_
  refine zz_E.kt 652 rfl (by rfl) (by decide) rfl ?_
  refine zz_E.n 655 rfl rfl rfl ?_
  refine zz_E.n 18 rfl rfl rfl ?_
  refine zz_E.n 19 rfl rfl rfl ?_
  refine zz_E.n 20 rfl rfl rfl ?_
  refine zz_E.n 21 rfl rfl rfl ?_
  refine zz_E.n 23 rfl rfl rfl ?_
  refine zz_E.n 24 rfl rfl rfl ?_
  refine zz_E.kt 658 rfl (by rfl) (by decide) rfl ?_
  refine zz_E.n 659 rfl rfl rfl ?_
  refine zz_E.ret rfl rfl rfl ?_
  exact ⟨rfl, by decide +kernel, by decide +kernel⟩
set_option maxRecDepth 100000 in
set_option maxHeartbeats 8000000 in
theorem zv_k15_3_3 (xs : Nat → Int32) : zz_E zp_P zt_tf zt_fd (zt_X 6 (fun q => if q = 1 then nI 3 else if q = 2 then nI 3 else xs q)) 1000 zm_law 33 zv_L [.int (nI 15)] zv_h zv_Q := by
  refine zz_E.n 579 rfl rfl rfl ?_
  refine zz_E.n 580 rfl rfl rfl ?_
  refine zz_E.n 581 rfl rfl rfl ?_
  refine zz_E.n 582 rfl rfl rfl ?_
  refine zz_E.n 583 rfl rfl rfl ?_
  refine zz_E.n 584 rfl rfl rfl ?_
  refine zz_E.n 585 rfl rfl rfl ?_
  refine zz_E.n 586 rfl rfl rfl ?_
  refine zz_E.n 587 rfl rfl rfl ?_
  refine zz_E.n 588 rfl rfl rfl ?_
  refine zz_E.n 589 rfl rfl rfl ?_
  refine zz_E.n 590 rfl rfl rfl ?_
  refine zz_E.cl (M' := zm_17) 593 rfl rfl (by decide) rfl rfl ⟨rfl, Nat.le_of_ble_eq_true rfl⟩ rfl ?_
  refine zz_E.n 1 rfl rfl rfl ?_
  refine zz_E.cl (M' := zm_21) 4 rfl rfl (by decide) rfl rfl ⟨rfl, Nat.le_of_ble_eq_true rfl⟩ rfl ?_
  refine zz_E.n 1 rfl rfl rfl ?_
  refine zz_E.jf 4 rfl (by rfl) (by decide) rfl ?_
  refine zz_E.n 5 rfl rfl rfl ?_
  refine zz_E.n 7 rfl rfl rfl ?_
  refine zz_E.kf 10 rfl (by rfl) (by decide) rfl ?_
  refine zz_E.n 11 rfl rfl rfl ?_
  refine zz_E.n 15 rfl rfl rfl ?_
  refine zz_E.ret rfl rfl rfl ?_
  refine zz_E.jf 7 rfl (by rfl) (by decide) rfl ?_
  refine zz_E.n 8 rfl rfl rfl ?_
  refine zz_E.cl (M' := zm_21) 11 rfl rfl (by decide) rfl rfl ⟨rfl, Nat.le_of_ble_eq_true rfl⟩ rfl ?_
  refine zz_E.n 1 rfl rfl rfl ?_
  refine zz_E.jf 4 rfl (by rfl) (by decide) rfl ?_
  refine zz_E.n 5 rfl rfl rfl ?_
  refine zz_E.n 7 rfl rfl rfl ?_
  refine zz_E.kf 10 rfl (by rfl) (by decide) rfl ?_
  refine zz_E.n 11 rfl rfl rfl ?_
  refine zz_E.n 15 rfl rfl rfl ?_
  refine zz_E.ret rfl rfl rfl ?_
  refine zz_E.jf 14 rfl (by rfl) (by decide) rfl ?_
  refine zz_E.n 15 rfl rfl rfl ?_
  refine zz_E.n 18 rfl rfl rfl ?_
  refine zz_E.n 19 rfl rfl rfl ?_
  refine zz_E.n 20 rfl rfl rfl ?_
  refine zz_E.cl (M' := zm_27) 23 rfl rfl (by decide) rfl rfl ⟨rfl, Nat.le_of_ble_eq_true rfl⟩ rfl ?_
  refine zz_E.n 1 rfl rfl rfl ?_
  refine zz_E.n 4 rfl rfl rfl ?_
  refine zz_E.n 5 rfl rfl rfl ?_
  refine zz_E.n 6 rfl rfl rfl ?_
  refine zz_E.n 7 rfl rfl rfl ?_
  refine zz_E.n 10 rfl rfl rfl ?_
  refine zz_E.n 11 rfl rfl rfl ?_
  refine zz_E.n 12 rfl rfl rfl ?_
  refine zz_E.kf 15 rfl (by rfl) (by decide) rfl ?_
  refine zz_E.n 16 rfl rfl rfl ?_
  refine zz_E.n 20 rfl rfl rfl ?_
  refine zz_E.n 21 rfl rfl rfl ?_
  refine zz_E.n 22 rfl rfl rfl ?_
  refine zz_E.n 24 rfl rfl rfl ?_
  refine zz_E.n 26 rfl rfl rfl ?_
  refine zz_E.n 27 rfl rfl rfl ?_
  refine zz_E.n 30 rfl rfl rfl ?_
  refine zz_E.n 31 rfl rfl rfl ?_
  refine zz_E.n 32 rfl rfl rfl ?_
  refine zz_E.kt 72 rfl (by rfl) (by decide) rfl ?_
  refine zz_E.n 73 rfl rfl rfl ?_
  refine zz_E.ret rfl rfl rfl ?_
  refine zz_E.jf 26 rfl (by rfl) (by decide) rfl ?_
  refine zz_E.n 27 rfl rfl rfl ?_
  refine zz_E.n 31 rfl rfl rfl ?_
  refine zz_E.ret rfl rfl rfl ?_
  refine zz_E.n 594 rfl rfl rfl ?_
  refine zz_E.n 595 rfl rfl rfl ?_
  refine zz_E.n 596 rfl rfl rfl ?_
  refine zz_E.n 597 rfl rfl rfl ?_
  refine zz_E.n 598 rfl rfl rfl ?_
  refine zz_E.n 599 rfl rfl rfl ?_
  refine zz_E.n 600 rfl rfl rfl ?_
  refine zz_E.n 601 rfl rfl rfl ?_
  refine zz_E.n 602 rfl rfl rfl ?_
  refine zz_E.n 603 rfl rfl rfl ?_
  refine zz_E.n 604 rfl rfl rfl ?_
  refine zz_E.cl (M' := zm_82) 607 rfl rfl (by decide) rfl rfl ⟨rfl, Nat.le_of_ble_eq_true rfl⟩ rfl ?_
  refine zz_E.n 1 rfl rfl rfl ?_
  refine zz_E.cl (M' := zm_73) 4 rfl rfl (by decide) rfl rfl ⟨rfl, Nat.le_of_ble_eq_true rfl⟩ rfl ?_
  refine zz_E.n 1 rfl rfl rfl ?_
  refine zz_E.jf 4 rfl (by rfl) (by decide) rfl ?_
  refine zz_E.n 5 rfl rfl rfl ?_
  refine zz_E.n 7 rfl rfl rfl ?_
  refine zz_E.kf 10 rfl (by rfl) (by decide) rfl ?_
  refine zz_E.n 11 rfl rfl rfl ?_
  refine zz_E.n 15 rfl rfl rfl ?_
  refine zz_E.ret rfl rfl rfl ?_
  refine zz_E.jf 7 rfl (by rfl) (by decide) rfl ?_
  refine zz_E.n 8 rfl rfl rfl ?_
  refine zz_E.cl (M' := zm_73) 11 rfl rfl (by decide) rfl rfl ⟨rfl, Nat.le_of_ble_eq_true rfl⟩ rfl ?_
  refine zz_E.n 1 rfl rfl rfl ?_
  refine zz_E.jf 4 rfl (by rfl) (by decide) rfl ?_
  refine zz_E.n 5 rfl rfl rfl ?_
  refine zz_E.n 7 rfl rfl rfl ?_
  refine zz_E.kf 10 rfl (by rfl) (by decide) rfl ?_
  refine zz_E.n 11 rfl rfl rfl ?_
  refine zz_E.n 15 rfl rfl rfl ?_
  refine zz_E.ret rfl rfl rfl ?_
  refine zz_E.jt 16 rfl (by rfl) (by decide) rfl ?_
  refine zz_E.n 19 rfl rfl rfl ?_
  refine zz_E.n 20 rfl rfl rfl ?_
  refine zz_E.n 21 rfl rfl rfl ?_
  refine zz_E.n 22 rfl rfl rfl ?_
  refine zz_E.n 25 rfl rfl rfl ?_
  refine zz_E.n 26 rfl rfl rfl ?_
  refine zz_E.n 27 rfl rfl rfl ?_
  refine zz_E.n 29 rfl rfl rfl ?_
  refine zz_E.n 30 rfl rfl rfl ?_
  refine zz_E.n 33 rfl rfl rfl ?_
  refine zz_E.n 34 rfl rfl rfl ?_
  refine zz_E.n 35 rfl rfl rfl ?_
  refine zz_E.jt 48 rfl (by rfl) (by decide) rfl ?_
  refine zz_E.n 49 rfl rfl rfl ?_
  refine zz_E.n 52 rfl rfl rfl ?_
  refine zz_E.n 53 rfl rfl rfl ?_
  refine zz_E.n 54 rfl rfl rfl ?_
  refine zz_E.n 55 rfl rfl rfl ?_
  refine zz_E.n 58 rfl rfl rfl ?_
  refine zz_E.n 60 rfl rfl rfl ?_
  refine zz_E.n 61 rfl rfl rfl ?_
  refine zz_E.kf 64 rfl (by rfl) (by decide) rfl ?_
  refine zz_E.n 65 rfl rfl rfl ?_
  refine zz_E.n 68 rfl rfl rfl ?_
  refine zz_E.n 69 rfl rfl rfl ?_
  refine zz_E.n 70 rfl rfl rfl ?_
  refine zz_E.jt 93 rfl (by rfl) (by decide) rfl ?_
  refine zz_E.n 94 rfl rfl rfl ?_
  refine zz_E.n 98 rfl rfl rfl ?_
  refine zz_E.ret rfl rfl rfl ?_
  refine zz_E.kt 652 rfl (by rfl) (by decide) rfl ?_
  refine zz_E.n 655 rfl rfl rfl ?_
  refine zz_E.n 18 rfl rfl rfl ?_
  refine zz_E.n 19 rfl rfl rfl ?_
  refine zz_E.n 20 rfl rfl rfl ?_
  refine zz_E.n 21 rfl rfl rfl ?_
  refine zz_E.n 23 rfl rfl rfl ?_
  refine zz_E.n 24 rfl rfl rfl ?_
  refine zz_E.kt 658 rfl (by rfl) (by decide) rfl ?_
  refine zz_E.n 659 rfl rfl rfl ?_
  refine zz_E.ret rfl rfl rfl ?_
  exact ⟨rfl, by decide +kernel, by decide +kernel⟩
set_option maxRecDepth 100000 in
set_option maxHeartbeats 8000000 in
theorem zv_k15_3_4 (xs : Nat → Int32) : zz_E zp_P zt_tf zt_fd (zt_X 6 (fun q => if q = 1 then nI 3 else if q = 2 then nI 4 else xs q)) 1000 zm_law 33 zv_L [.int (nI 15)] zv_h zv_Q := by
  refine zz_E.n 579 rfl rfl rfl ?_
  refine zz_E.n 580 rfl rfl rfl ?_
  refine zz_E.n 581 rfl rfl rfl ?_
  refine zz_E.n 582 rfl rfl rfl ?_
  refine zz_E.n 583 rfl rfl rfl ?_
  refine zz_E.n 584 rfl rfl rfl ?_
  refine zz_E.n 585 rfl rfl rfl ?_
  refine zz_E.n 586 rfl rfl rfl ?_
  refine zz_E.n 587 rfl rfl rfl ?_
  refine zz_E.n 588 rfl rfl rfl ?_
  refine zz_E.n 589 rfl rfl rfl ?_
  refine zz_E.n 590 rfl rfl rfl ?_
  refine zz_E.cl (M' := zm_17) 593 rfl rfl (by decide) rfl rfl ⟨rfl, Nat.le_of_ble_eq_true rfl⟩ rfl ?_
  refine zz_E.n 1 rfl rfl rfl ?_
  refine zz_E.cl (M' := zm_21) 4 rfl rfl (by decide) rfl rfl ⟨rfl, Nat.le_of_ble_eq_true rfl⟩ rfl ?_
  refine zz_E.n 1 rfl rfl rfl ?_
  refine zz_E.jf 4 rfl (by rfl) (by decide) rfl ?_
  refine zz_E.n 5 rfl rfl rfl ?_
  refine zz_E.n 7 rfl rfl rfl ?_
  refine zz_E.kf 10 rfl (by rfl) (by decide) rfl ?_
  refine zz_E.n 11 rfl rfl rfl ?_
  refine zz_E.n 15 rfl rfl rfl ?_
  refine zz_E.ret rfl rfl rfl ?_
  refine zz_E.jf 7 rfl (by rfl) (by decide) rfl ?_
  refine zz_E.n 8 rfl rfl rfl ?_
  refine zz_E.cl (M' := zm_21) 11 rfl rfl (by decide) rfl rfl ⟨rfl, Nat.le_of_ble_eq_true rfl⟩ rfl ?_
  refine zz_E.n 1 rfl rfl rfl ?_
  refine zz_E.jf 4 rfl (by rfl) (by decide) rfl ?_
  refine zz_E.n 5 rfl rfl rfl ?_
  refine zz_E.n 7 rfl rfl rfl ?_
  refine zz_E.kf 10 rfl (by rfl) (by decide) rfl ?_
  refine zz_E.n 11 rfl rfl rfl ?_
  refine zz_E.n 15 rfl rfl rfl ?_
  refine zz_E.ret rfl rfl rfl ?_
  refine zz_E.jf 14 rfl (by rfl) (by decide) rfl ?_
  refine zz_E.n 15 rfl rfl rfl ?_
  refine zz_E.n 18 rfl rfl rfl ?_
  refine zz_E.n 19 rfl rfl rfl ?_
  refine zz_E.n 20 rfl rfl rfl ?_
  refine zz_E.cl (M' := zm_27) 23 rfl rfl (by decide) rfl rfl ⟨rfl, Nat.le_of_ble_eq_true rfl⟩ rfl ?_
  refine zz_E.n 1 rfl rfl rfl ?_
  refine zz_E.n 4 rfl rfl rfl ?_
  refine zz_E.n 5 rfl rfl rfl ?_
  refine zz_E.n 6 rfl rfl rfl ?_
  refine zz_E.n 7 rfl rfl rfl ?_
  refine zz_E.n 10 rfl rfl rfl ?_
  refine zz_E.n 11 rfl rfl rfl ?_
  refine zz_E.n 12 rfl rfl rfl ?_
  refine zz_E.kf 15 rfl (by rfl) (by decide) rfl ?_
  refine zz_E.n 16 rfl rfl rfl ?_
  refine zz_E.n 20 rfl rfl rfl ?_
  refine zz_E.n 21 rfl rfl rfl ?_
  refine zz_E.n 22 rfl rfl rfl ?_
  refine zz_E.n 24 rfl rfl rfl ?_
  refine zz_E.n 26 rfl rfl rfl ?_
  refine zz_E.n 27 rfl rfl rfl ?_
  refine zz_E.n 30 rfl rfl rfl ?_
  refine zz_E.n 31 rfl rfl rfl ?_
  refine zz_E.n 32 rfl rfl rfl ?_
  refine zz_E.kt 72 rfl (by rfl) (by decide) rfl ?_
  refine zz_E.n 73 rfl rfl rfl ?_
  refine zz_E.ret rfl rfl rfl ?_
  refine zz_E.jf 26 rfl (by rfl) (by decide) rfl ?_
  refine zz_E.n 27 rfl rfl rfl ?_
  refine zz_E.n 31 rfl rfl rfl ?_
  refine zz_E.ret rfl rfl rfl ?_
  refine zz_E.n 594 rfl rfl rfl ?_
  refine zz_E.n 595 rfl rfl rfl ?_
  refine zz_E.n 596 rfl rfl rfl ?_
  refine zz_E.n 597 rfl rfl rfl ?_
  refine zz_E.n 598 rfl rfl rfl ?_
  refine zz_E.n 599 rfl rfl rfl ?_
  refine zz_E.n 600 rfl rfl rfl ?_
  refine zz_E.n 601 rfl rfl rfl ?_
  refine zz_E.n 602 rfl rfl rfl ?_
  refine zz_E.n 603 rfl rfl rfl ?_
  refine zz_E.n 604 rfl rfl rfl ?_
  refine zz_E.cl (M' := zm_82) 607 rfl rfl (by decide) rfl rfl ⟨rfl, Nat.le_of_ble_eq_true rfl⟩ rfl ?_
  refine zz_E.n 1 rfl rfl rfl ?_
  refine zz_E.cl (M' := zm_73) 4 rfl rfl (by decide) rfl rfl ⟨rfl, Nat.le_of_ble_eq_true rfl⟩ rfl ?_
  refine zz_E.n 1 rfl rfl rfl ?_
  refine zz_E.jf 4 rfl (by rfl) (by decide) rfl ?_
  refine zz_E.n 5 rfl rfl rfl ?_
  refine zz_E.n 7 rfl rfl rfl ?_
  refine zz_E.kf 10 rfl (by rfl) (by decide) rfl ?_
  refine zz_E.n 11 rfl rfl rfl ?_
  refine zz_E.n 15 rfl rfl rfl ?_
  refine zz_E.ret rfl rfl rfl ?_
  refine zz_E.jf 7 rfl (by rfl) (by decide) rfl ?_
  refine zz_E.n 8 rfl rfl rfl ?_
  refine zz_E.cl (M' := zm_73) 11 rfl rfl (by decide) rfl rfl ⟨rfl, Nat.le_of_ble_eq_true rfl⟩ rfl ?_
  refine zz_E.n 1 rfl rfl rfl ?_
  refine zz_E.jf 4 rfl (by rfl) (by decide) rfl ?_
  refine zz_E.n 5 rfl rfl rfl ?_
  refine zz_E.n 7 rfl rfl rfl ?_
  refine zz_E.kf 10 rfl (by rfl) (by decide) rfl ?_
  refine zz_E.n 11 rfl rfl rfl ?_
  refine zz_E.n 15 rfl rfl rfl ?_
  refine zz_E.ret rfl rfl rfl ?_
  refine zz_E.jt 16 rfl (by rfl) (by decide) rfl ?_
  refine zz_E.n 19 rfl rfl rfl ?_
  refine zz_E.n 20 rfl rfl rfl ?_
  refine zz_E.n 21 rfl rfl rfl ?_
  refine zz_E.n 22 rfl rfl rfl ?_
  refine zz_E.n 25 rfl rfl rfl ?_
  refine zz_E.n 26 rfl rfl rfl ?_
  refine zz_E.n 27 rfl rfl rfl ?_
  refine zz_E.n 29 rfl rfl rfl ?_
  refine zz_E.n 30 rfl rfl rfl ?_
  refine zz_E.n 33 rfl rfl rfl ?_
  refine zz_E.n 34 rfl rfl rfl ?_
  refine zz_E.n 35 rfl rfl rfl ?_
  refine zz_E.jt 48 rfl (by rfl) (by decide) rfl ?_
  refine zz_E.n 49 rfl rfl rfl ?_
  refine zz_E.n 52 rfl rfl rfl ?_
  refine zz_E.n 53 rfl rfl rfl ?_
  refine zz_E.n 54 rfl rfl rfl ?_
  refine zz_E.n 55 rfl rfl rfl ?_
  refine zz_E.n 58 rfl rfl rfl ?_
  refine zz_E.n 60 rfl rfl rfl ?_
  refine zz_E.n 61 rfl rfl rfl ?_
  refine zz_E.kf 64 rfl (by rfl) (by decide) rfl ?_
  refine zz_E.n 65 rfl rfl rfl ?_
  refine zz_E.n 68 rfl rfl rfl ?_
  refine zz_E.n 69 rfl rfl rfl ?_
  refine zz_E.n 70 rfl rfl rfl ?_
  refine zz_E.jt 93 rfl (by rfl) (by decide) rfl ?_
  refine zz_E.n 94 rfl rfl rfl ?_
  refine zz_E.n 98 rfl rfl rfl ?_
  refine zz_E.ret rfl rfl rfl ?_
  refine zz_E.kt 652 rfl (by rfl) (by decide) rfl ?_
  refine zz_E.n 655 rfl rfl rfl ?_
  refine zz_E.n 18 rfl rfl rfl ?_
  refine zz_E.n 19 rfl rfl rfl ?_
  refine zz_E.n 20 rfl rfl rfl ?_
  refine zz_E.n 21 rfl rfl rfl ?_
  refine zz_E.n 23 rfl rfl rfl ?_
  refine zz_E.n 24 rfl rfl rfl ?_
  refine zz_E.kt 658 rfl (by rfl) (by decide) rfl ?_
  refine zz_E.n 659 rfl rfl rfl ?_
  refine zz_E.ret rfl rfl rfl ?_
  exact ⟨rfl, by decide +kernel, by decide +kernel⟩
set_option maxRecDepth 100000 in
set_option maxHeartbeats 8000000 in
theorem zv_k15_3_5 (xs : Nat → Int32) : zz_E zp_P zt_tf zt_fd (zt_X 6 (fun q => if q = 1 then nI 3 else if q = 2 then nI 5 else xs q)) 1000 zm_law 33 zv_L [.int (nI 15)] zv_h zv_Q := by
  refine zz_E.n 579 rfl rfl rfl ?_
  refine zz_E.n 580 rfl rfl rfl ?_
  refine zz_E.n 581 rfl rfl rfl ?_
  refine zz_E.n 582 rfl rfl rfl ?_
  refine zz_E.n 583 rfl rfl rfl ?_
  refine zz_E.n 584 rfl rfl rfl ?_
  refine zz_E.n 585 rfl rfl rfl ?_
  refine zz_E.n 586 rfl rfl rfl ?_
  refine zz_E.n 587 rfl rfl rfl ?_
  refine zz_E.n 588 rfl rfl rfl ?_
  refine zz_E.n 589 rfl rfl rfl ?_
  refine zz_E.n 590 rfl rfl rfl ?_
  refine zz_E.cl (M' := zm_17) 593 rfl rfl (by decide) rfl rfl ⟨rfl, Nat.le_of_ble_eq_true rfl⟩ rfl ?_
  refine zz_E.n 1 rfl rfl rfl ?_
  refine zz_E.cl (M' := zm_21) 4 rfl rfl (by decide) rfl rfl ⟨rfl, Nat.le_of_ble_eq_true rfl⟩ rfl ?_
  refine zz_E.n 1 rfl rfl rfl ?_
  refine zz_E.jf 4 rfl (by rfl) (by decide) rfl ?_
  refine zz_E.n 5 rfl rfl rfl ?_
  refine zz_E.n 7 rfl rfl rfl ?_
  refine zz_E.kf 10 rfl (by rfl) (by decide) rfl ?_
  refine zz_E.n 11 rfl rfl rfl ?_
  refine zz_E.n 15 rfl rfl rfl ?_
  refine zz_E.ret rfl rfl rfl ?_
  refine zz_E.jf 7 rfl (by rfl) (by decide) rfl ?_
  refine zz_E.n 8 rfl rfl rfl ?_
  refine zz_E.cl (M' := zm_21) 11 rfl rfl (by decide) rfl rfl ⟨rfl, Nat.le_of_ble_eq_true rfl⟩ rfl ?_
  refine zz_E.n 1 rfl rfl rfl ?_
  refine zz_E.jf 4 rfl (by rfl) (by decide) rfl ?_
  refine zz_E.n 5 rfl rfl rfl ?_
  refine zz_E.n 7 rfl rfl rfl ?_
  refine zz_E.kf 10 rfl (by rfl) (by decide) rfl ?_
  refine zz_E.n 11 rfl rfl rfl ?_
  refine zz_E.n 15 rfl rfl rfl ?_
  refine zz_E.ret rfl rfl rfl ?_
  refine zz_E.jf 14 rfl (by rfl) (by decide) rfl ?_
  refine zz_E.n 15 rfl rfl rfl ?_
  refine zz_E.n 18 rfl rfl rfl ?_
  refine zz_E.n 19 rfl rfl rfl ?_
  refine zz_E.n 20 rfl rfl rfl ?_
  refine zz_E.cl (M' := zm_27) 23 rfl rfl (by decide) rfl rfl ⟨rfl, Nat.le_of_ble_eq_true rfl⟩ rfl ?_
  refine zz_E.n 1 rfl rfl rfl ?_
  refine zz_E.n 4 rfl rfl rfl ?_
  refine zz_E.n 5 rfl rfl rfl ?_
  refine zz_E.n 6 rfl rfl rfl ?_
  refine zz_E.n 7 rfl rfl rfl ?_
  refine zz_E.n 10 rfl rfl rfl ?_
  refine zz_E.n 11 rfl rfl rfl ?_
  refine zz_E.n 12 rfl rfl rfl ?_
  refine zz_E.kf 15 rfl (by rfl) (by decide) rfl ?_
  refine zz_E.n 16 rfl rfl rfl ?_
  refine zz_E.n 20 rfl rfl rfl ?_
  refine zz_E.n 21 rfl rfl rfl ?_
  refine zz_E.n 22 rfl rfl rfl ?_
  refine zz_E.n 24 rfl rfl rfl ?_
  refine zz_E.n 26 rfl rfl rfl ?_
  refine zz_E.n 27 rfl rfl rfl ?_
  refine zz_E.n 30 rfl rfl rfl ?_
  refine zz_E.n 31 rfl rfl rfl ?_
  refine zz_E.n 32 rfl rfl rfl ?_
  refine zz_E.kt 72 rfl (by rfl) (by decide) rfl ?_
  refine zz_E.n 73 rfl rfl rfl ?_
  refine zz_E.ret rfl rfl rfl ?_
  refine zz_E.jf 26 rfl (by rfl) (by decide) rfl ?_
  refine zz_E.n 27 rfl rfl rfl ?_
  refine zz_E.n 31 rfl rfl rfl ?_
  refine zz_E.ret rfl rfl rfl ?_
  refine zz_E.n 594 rfl rfl rfl ?_
  refine zz_E.n 595 rfl rfl rfl ?_
  refine zz_E.n 596 rfl rfl rfl ?_
  refine zz_E.n 597 rfl rfl rfl ?_
  refine zz_E.n 598 rfl rfl rfl ?_
  refine zz_E.n 599 rfl rfl rfl ?_
  refine zz_E.n 600 rfl rfl rfl ?_
  refine zz_E.n 601 rfl rfl rfl ?_
  refine zz_E.n 602 rfl rfl rfl ?_
  refine zz_E.n 603 rfl rfl rfl ?_
  refine zz_E.n 604 rfl rfl rfl ?_
  refine zz_E.cl (M' := zm_82) 607 rfl rfl (by decide) rfl rfl ⟨rfl, Nat.le_of_ble_eq_true rfl⟩ rfl ?_
  refine zz_E.n 1 rfl rfl rfl ?_
  refine zz_E.cl (M' := zm_73) 4 rfl rfl (by decide) rfl rfl ⟨rfl, Nat.le_of_ble_eq_true rfl⟩ rfl ?_
  refine zz_E.n 1 rfl rfl rfl ?_
  refine zz_E.jf 4 rfl (by rfl) (by decide) rfl ?_
  refine zz_E.n 5 rfl rfl rfl ?_
  refine zz_E.n 7 rfl rfl rfl ?_
  refine zz_E.kf 10 rfl (by rfl) (by decide) rfl ?_
  refine zz_E.n 11 rfl rfl rfl ?_
  refine zz_E.n 15 rfl rfl rfl ?_
  refine zz_E.ret rfl rfl rfl ?_
  refine zz_E.jf 7 rfl (by rfl) (by decide) rfl ?_
  refine zz_E.n 8 rfl rfl rfl ?_
  refine zz_E.cl (M' := zm_73) 11 rfl rfl (by decide) rfl rfl ⟨rfl, Nat.le_of_ble_eq_true rfl⟩ rfl ?_
  refine zz_E.n 1 rfl rfl rfl ?_
  refine zz_E.jf 4 rfl (by rfl) (by decide) rfl ?_
  refine zz_E.n 5 rfl rfl rfl ?_
  refine zz_E.n 7 rfl rfl rfl ?_
  refine zz_E.kf 10 rfl (by rfl) (by decide) rfl ?_
  refine zz_E.n 11 rfl rfl rfl ?_
  refine zz_E.n 15 rfl rfl rfl ?_
  refine zz_E.ret rfl rfl rfl ?_
  refine zz_E.jt 16 rfl (by rfl) (by decide) rfl ?_
  refine zz_E.n 19 rfl rfl rfl ?_
  refine zz_E.n 20 rfl rfl rfl ?_
  refine zz_E.n 21 rfl rfl rfl ?_
  refine zz_E.n 22 rfl rfl rfl ?_
  refine zz_E.n 25 rfl rfl rfl ?_
  refine zz_E.n 26 rfl rfl rfl ?_
  refine zz_E.n 27 rfl rfl rfl ?_
  refine zz_E.n 29 rfl rfl rfl ?_
  refine zz_E.n 30 rfl rfl rfl ?_
  refine zz_E.n 33 rfl rfl rfl ?_
  refine zz_E.n 34 rfl rfl rfl ?_
  refine zz_E.n 35 rfl rfl rfl ?_
  refine zz_E.jt 48 rfl (by rfl) (by decide) rfl ?_
  refine zz_E.n 49 rfl rfl rfl ?_
  refine zz_E.n 52 rfl rfl rfl ?_
  refine zz_E.n 53 rfl rfl rfl ?_
  refine zz_E.n 54 rfl rfl rfl ?_
  refine zz_E.n 55 rfl rfl rfl ?_
  refine zz_E.n 58 rfl rfl rfl ?_
  refine zz_E.n 60 rfl rfl rfl ?_
  refine zz_E.n 61 rfl rfl rfl ?_
  refine zz_E.kf 64 rfl (by rfl) (by decide) rfl ?_
  refine zz_E.n 65 rfl rfl rfl ?_
  refine zz_E.n 68 rfl rfl rfl ?_
  refine zz_E.n 69 rfl rfl rfl ?_
  refine zz_E.n 70 rfl rfl rfl ?_
  refine zz_E.jt 93 rfl (by rfl) (by decide) rfl ?_
  refine zz_E.n 94 rfl rfl rfl ?_
  refine zz_E.n 98 rfl rfl rfl ?_
  refine zz_E.ret rfl rfl rfl ?_
  refine zz_E.kt 652 rfl (by rfl) (by decide) rfl ?_
  refine zz_E.n 655 rfl rfl rfl ?_
  refine zz_E.n 18 rfl rfl rfl ?_
  refine zz_E.n 19 rfl rfl rfl ?_
  refine zz_E.n 20 rfl rfl rfl ?_
  refine zz_E.n 21 rfl rfl rfl ?_
  refine zz_E.n 23 rfl rfl rfl ?_
  refine zz_E.n 24 rfl rfl rfl ?_
  refine zz_E.kt 658 rfl (by rfl) (by decide) rfl ?_
  refine zz_E.n 659 rfl rfl rfl ?_
  refine zz_E.ret rfl rfl rfl ?_
  exact ⟨rfl, by decide +kernel, by decide +kernel⟩
set_option maxRecDepth 100000 in
set_option maxHeartbeats 8000000 in
theorem zv_k15_3_6 (xs : Nat → Int32) : zz_E zp_P zt_tf zt_fd (zt_X 6 (fun q => if q = 1 then nI 3 else if q = 2 then nI 6 else xs q)) 1000 zm_law 33 zv_L [.int (nI 15)] zv_h zv_Q := by
  refine zz_E.n 579 rfl rfl rfl ?_
  refine zz_E.n 580 rfl rfl rfl ?_
  refine zz_E.n 581 rfl rfl rfl ?_
  refine zz_E.n 582 rfl rfl rfl ?_
  refine zz_E.n 583 rfl rfl rfl ?_
  refine zz_E.n 584 rfl rfl rfl ?_
  refine zz_E.n 585 rfl rfl rfl ?_
  refine zz_E.n 586 rfl rfl rfl ?_
  refine zz_E.n 587 rfl rfl rfl ?_
  refine zz_E.n 588 rfl rfl rfl ?_
  refine zz_E.n 589 rfl rfl rfl ?_
  refine zz_E.n 590 rfl rfl rfl ?_
  refine zz_E.cl (M' := zm_17) 593 rfl rfl (by decide) rfl rfl ⟨rfl, Nat.le_of_ble_eq_true rfl⟩ rfl ?_
  refine zz_E.n 1 rfl rfl rfl ?_
  refine zz_E.cl (M' := zm_21) 4 rfl rfl (by decide) rfl rfl ⟨rfl, Nat.le_of_ble_eq_true rfl⟩ rfl ?_
  refine zz_E.n 1 rfl rfl rfl ?_
  refine zz_E.jf 4 rfl (by rfl) (by decide) rfl ?_
  refine zz_E.n 5 rfl rfl rfl ?_
  refine zz_E.n 7 rfl rfl rfl ?_
  refine zz_E.kf 10 rfl (by rfl) (by decide) rfl ?_
  refine zz_E.n 11 rfl rfl rfl ?_
  refine zz_E.n 15 rfl rfl rfl ?_
  refine zz_E.ret rfl rfl rfl ?_
  refine zz_E.jf 7 rfl (by rfl) (by decide) rfl ?_
  refine zz_E.n 8 rfl rfl rfl ?_
  refine zz_E.cl (M' := zm_21) 11 rfl rfl (by decide) rfl rfl ⟨rfl, Nat.le_of_ble_eq_true rfl⟩ rfl ?_
  refine zz_E.n 1 rfl rfl rfl ?_
  refine zz_E.jf 4 rfl (by rfl) (by decide) rfl ?_
  refine zz_E.n 5 rfl rfl rfl ?_
  refine zz_E.n 7 rfl rfl rfl ?_
  refine zz_E.kf 10 rfl (by rfl) (by decide) rfl ?_
  refine zz_E.n 11 rfl rfl rfl ?_
  refine zz_E.n 15 rfl rfl rfl ?_
  refine zz_E.ret rfl rfl rfl ?_
  refine zz_E.jf 14 rfl (by rfl) (by decide) rfl ?_
  refine zz_E.n 15 rfl rfl rfl ?_
  refine zz_E.n 18 rfl rfl rfl ?_
  refine zz_E.n 19 rfl rfl rfl ?_
  refine zz_E.n 20 rfl rfl rfl ?_
  refine zz_E.cl (M' := zm_27) 23 rfl rfl (by decide) rfl rfl ⟨rfl, Nat.le_of_ble_eq_true rfl⟩ rfl ?_
  refine zz_E.n 1 rfl rfl rfl ?_
  refine zz_E.n 4 rfl rfl rfl ?_
  refine zz_E.n 5 rfl rfl rfl ?_
  refine zz_E.n 6 rfl rfl rfl ?_
  refine zz_E.n 7 rfl rfl rfl ?_
  refine zz_E.n 10 rfl rfl rfl ?_
  refine zz_E.n 11 rfl rfl rfl ?_
  refine zz_E.n 12 rfl rfl rfl ?_
  refine zz_E.kf 15 rfl (by rfl) (by decide) rfl ?_
  refine zz_E.n 16 rfl rfl rfl ?_
  refine zz_E.n 20 rfl rfl rfl ?_
  refine zz_E.n 21 rfl rfl rfl ?_
  refine zz_E.n 22 rfl rfl rfl ?_
  refine zz_E.n 24 rfl rfl rfl ?_
  refine zz_E.n 26 rfl rfl rfl ?_
  refine zz_E.n 27 rfl rfl rfl ?_
  refine zz_E.n 30 rfl rfl rfl ?_
  refine zz_E.n 31 rfl rfl rfl ?_
  refine zz_E.n 32 rfl rfl rfl ?_
  refine zz_E.kt 72 rfl (by rfl) (by decide) rfl ?_
  refine zz_E.n 73 rfl rfl rfl ?_
  refine zz_E.ret rfl rfl rfl ?_
  refine zz_E.jf 26 rfl (by rfl) (by decide) rfl ?_
  refine zz_E.n 27 rfl rfl rfl ?_
  refine zz_E.n 31 rfl rfl rfl ?_
  refine zz_E.ret rfl rfl rfl ?_
  refine zz_E.n 594 rfl rfl rfl ?_
  refine zz_E.n 595 rfl rfl rfl ?_
  refine zz_E.n 596 rfl rfl rfl ?_
  refine zz_E.n 597 rfl rfl rfl ?_
  refine zz_E.n 598 rfl rfl rfl ?_
  refine zz_E.n 599 rfl rfl rfl ?_
  refine zz_E.n 600 rfl rfl rfl ?_
  refine zz_E.n 601 rfl rfl rfl ?_
  refine zz_E.n 602 rfl rfl rfl ?_
  refine zz_E.n 603 rfl rfl rfl ?_
  refine zz_E.n 604 rfl rfl rfl ?_
  refine zz_E.cl (M' := zm_82) 607 rfl rfl (by decide) rfl rfl ⟨rfl, Nat.le_of_ble_eq_true rfl⟩ rfl ?_
  refine zz_E.n 1 rfl rfl rfl ?_
  refine zz_E.cl (M' := zm_73) 4 rfl rfl (by decide) rfl rfl ⟨rfl, Nat.le_of_ble_eq_true rfl⟩ rfl ?_
  refine zz_E.n 1 rfl rfl rfl ?_
  refine zz_E.jf 4 rfl (by rfl) (by decide) rfl ?_
  refine zz_E.n 5 rfl rfl rfl ?_
  refine zz_E.n 7 rfl rfl rfl ?_
  refine zz_E.kf 10 rfl (by rfl) (by decide) rfl ?_
  refine zz_E.n 11 rfl rfl rfl ?_
  refine zz_E.n 15 rfl rfl rfl ?_
  refine zz_E.ret rfl rfl rfl ?_
  refine zz_E.jf 7 rfl (by rfl) (by decide) rfl ?_
  refine zz_E.n 8 rfl rfl rfl ?_
  refine zz_E.cl (M' := zm_73) 11 rfl rfl (by decide) rfl rfl ⟨rfl, Nat.le_of_ble_eq_true rfl⟩ rfl ?_
  refine zz_E.n 1 rfl rfl rfl ?_
  refine zz_E.jf 4 rfl (by rfl) (by decide) rfl ?_
  refine zz_E.n 5 rfl rfl rfl ?_
  refine zz_E.n 7 rfl rfl rfl ?_
  refine zz_E.kf 10 rfl (by rfl) (by decide) rfl ?_
  refine zz_E.n 11 rfl rfl rfl ?_
  refine zz_E.n 15 rfl rfl rfl ?_
  refine zz_E.ret rfl rfl rfl ?_
  refine zz_E.jt 16 rfl (by rfl) (by decide) rfl ?_
  refine zz_E.n 19 rfl rfl rfl ?_
  refine zz_E.n 20 rfl rfl rfl ?_
  refine zz_E.n 21 rfl rfl rfl ?_
  refine zz_E.n 22 rfl rfl rfl ?_
  refine zz_E.n 25 rfl rfl rfl ?_
  refine zz_E.n 26 rfl rfl rfl ?_
  refine zz_E.n 27 rfl rfl rfl ?_
  refine zz_E.n 29 rfl rfl rfl ?_
  refine zz_E.n 30 rfl rfl rfl ?_
  refine zz_E.n 33 rfl rfl rfl ?_
  refine zz_E.n 34 rfl rfl rfl ?_
  refine zz_E.n 35 rfl rfl rfl ?_
  refine zz_E.jt 48 rfl (by rfl) (by decide) rfl ?_
  refine zz_E.n 49 rfl rfl rfl ?_
  refine zz_E.n 52 rfl rfl rfl ?_
  refine zz_E.n 53 rfl rfl rfl ?_
  refine zz_E.n 54 rfl rfl rfl ?_
  refine zz_E.n 55 rfl rfl rfl ?_
  refine zz_E.n 58 rfl rfl rfl ?_
  refine zz_E.n 60 rfl rfl rfl ?_
  refine zz_E.n 61 rfl rfl rfl ?_
  refine zz_E.kf 64 rfl (by rfl) (by decide) rfl ?_
  refine zz_E.n 65 rfl rfl rfl ?_
  refine zz_E.n 68 rfl rfl rfl ?_
  refine zz_E.n 69 rfl rfl rfl ?_
  refine zz_E.n 70 rfl rfl rfl ?_
  refine zz_E.jt 93 rfl (by rfl) (by decide) rfl ?_
  refine zz_E.n 94 rfl rfl rfl ?_
  refine zz_E.n 98 rfl rfl rfl ?_
  refine zz_E.ret rfl rfl rfl ?_
  refine zz_E.kt 652 rfl (by rfl) (by decide) rfl ?_
  refine zz_E.n 655 rfl rfl rfl ?_
  refine zz_E.n 18 rfl rfl rfl ?_
  refine zz_E.n 19 rfl rfl rfl ?_
  refine zz_E.n 20 rfl rfl rfl ?_
  refine zz_E.n 21 rfl rfl rfl ?_
  refine zz_E.n 23 rfl rfl rfl ?_
  refine zz_E.n 24 rfl rfl rfl ?_
  refine zz_E.kt 658 rfl (by rfl) (by decide) rfl ?_
  refine zz_E.n 659 rfl rfl rfl ?_
  refine zz_E.ret rfl rfl rfl ?_
  exact ⟨rfl, by decide +kernel, by decide +kernel⟩
set_option maxRecDepth 100000 in
set_option maxHeartbeats 8000000 in
theorem zv_k15_3_7 (xs : Nat → Int32) : zz_E zp_P zt_tf zt_fd (zt_X 6 (fun q => if q = 1 then nI 3 else if q = 2 then nI 7 else xs q)) 1000 zm_law 33 zv_L [.int (nI 15)] zv_h zv_Q := by
  refine zz_E.n 579 rfl rfl rfl ?_
  refine zz_E.n 580 rfl rfl rfl ?_
  refine zz_E.n 581 rfl rfl rfl ?_
  refine zz_E.n 582 rfl rfl rfl ?_
  refine zz_E.n 583 rfl rfl rfl ?_
  refine zz_E.n 584 rfl rfl rfl ?_
  refine zz_E.n 585 rfl rfl rfl ?_
  refine zz_E.n 586 rfl rfl rfl ?_
  refine zz_E.n 587 rfl rfl rfl ?_
  refine zz_E.n 588 rfl rfl rfl ?_
  refine zz_E.n 589 rfl rfl rfl ?_
  refine zz_E.n 590 rfl rfl rfl ?_
  refine zz_E.cl (M' := zm_17) 593 rfl rfl (by decide) rfl rfl ⟨rfl, Nat.le_of_ble_eq_true rfl⟩ rfl ?_
  refine zz_E.n 1 rfl rfl rfl ?_
  refine zz_E.cl (M' := zm_21) 4 rfl rfl (by decide) rfl rfl ⟨rfl, Nat.le_of_ble_eq_true rfl⟩ rfl ?_
  refine zz_E.n 1 rfl rfl rfl ?_
  refine zz_E.jf 4 rfl (by rfl) (by decide) rfl ?_
  refine zz_E.n 5 rfl rfl rfl ?_
  refine zz_E.n 7 rfl rfl rfl ?_
  refine zz_E.kf 10 rfl (by rfl) (by decide) rfl ?_
  refine zz_E.n 11 rfl rfl rfl ?_
  refine zz_E.n 15 rfl rfl rfl ?_
  refine zz_E.ret rfl rfl rfl ?_
  refine zz_E.jf 7 rfl (by rfl) (by decide) rfl ?_
  refine zz_E.n 8 rfl rfl rfl ?_
  refine zz_E.cl (M' := zm_21) 11 rfl rfl (by decide) rfl rfl ⟨rfl, Nat.le_of_ble_eq_true rfl⟩ rfl ?_
  refine zz_E.n 1 rfl rfl rfl ?_
  refine zz_E.jf 4 rfl (by rfl) (by decide) rfl ?_
  refine zz_E.n 5 rfl rfl rfl ?_
  refine zz_E.n 7 rfl rfl rfl ?_
  refine zz_E.kf 10 rfl (by rfl) (by decide) rfl ?_
  refine zz_E.n 11 rfl rfl rfl ?_
  refine zz_E.n 15 rfl rfl rfl ?_
  refine zz_E.ret rfl rfl rfl ?_
  refine zz_E.jf 14 rfl (by rfl) (by decide) rfl ?_
  refine zz_E.n 15 rfl rfl rfl ?_
  refine zz_E.n 18 rfl rfl rfl ?_
  refine zz_E.n 19 rfl rfl rfl ?_
  refine zz_E.n 20 rfl rfl rfl ?_
  refine zz_E.cl (M' := zm_27) 23 rfl rfl (by decide) rfl rfl ⟨rfl, Nat.le_of_ble_eq_true rfl⟩ rfl ?_
  refine zz_E.n 1 rfl rfl rfl ?_
  refine zz_E.n 4 rfl rfl rfl ?_
  refine zz_E.n 5 rfl rfl rfl ?_
  refine zz_E.n 6 rfl rfl rfl ?_
  refine zz_E.n 7 rfl rfl rfl ?_
  refine zz_E.n 10 rfl rfl rfl ?_
  refine zz_E.n 11 rfl rfl rfl ?_
  refine zz_E.n 12 rfl rfl rfl ?_
  refine zz_E.kf 15 rfl (by rfl) (by decide) rfl ?_
  refine zz_E.n 16 rfl rfl rfl ?_
  refine zz_E.n 20 rfl rfl rfl ?_
  refine zz_E.n 21 rfl rfl rfl ?_
  refine zz_E.n 22 rfl rfl rfl ?_
  refine zz_E.n 24 rfl rfl rfl ?_
  refine zz_E.n 26 rfl rfl rfl ?_
  refine zz_E.n 27 rfl rfl rfl ?_
  refine zz_E.n 30 rfl rfl rfl ?_
  refine zz_E.n 31 rfl rfl rfl ?_
  refine zz_E.n 32 rfl rfl rfl ?_
  refine zz_E.kt 72 rfl (by rfl) (by decide) rfl ?_
  refine zz_E.n 73 rfl rfl rfl ?_
  refine zz_E.ret rfl rfl rfl ?_
  refine zz_E.jf 26 rfl (by rfl) (by decide) rfl ?_
  refine zz_E.n 27 rfl rfl rfl ?_
  refine zz_E.n 31 rfl rfl rfl ?_
  refine zz_E.ret rfl rfl rfl ?_
  refine zz_E.n 594 rfl rfl rfl ?_
  refine zz_E.n 595 rfl rfl rfl ?_
  refine zz_E.n 596 rfl rfl rfl ?_
  refine zz_E.n 597 rfl rfl rfl ?_
  refine zz_E.n 598 rfl rfl rfl ?_
  refine zz_E.n 599 rfl rfl rfl ?_
  refine zz_E.n 600 rfl rfl rfl ?_
  refine zz_E.n 601 rfl rfl rfl ?_
  refine zz_E.n 602 rfl rfl rfl ?_
  refine zz_E.n 603 rfl rfl rfl ?_
  refine zz_E.n 604 rfl rfl rfl ?_
  refine zz_E.cl (M' := zm_82) 607 rfl rfl (by decide) rfl rfl ⟨rfl, Nat.le_of_ble_eq_true rfl⟩ rfl ?_
  refine zz_E.n 1 rfl rfl rfl ?_
  refine zz_E.cl (M' := zm_73) 4 rfl rfl (by decide) rfl rfl ⟨rfl, Nat.le_of_ble_eq_true rfl⟩ rfl ?_
  refine zz_E.n 1 rfl rfl rfl ?_
  refine zz_E.jf 4 rfl (by rfl) (by decide) rfl ?_
  refine zz_E.n 5 rfl rfl rfl ?_
  refine zz_E.n 7 rfl rfl rfl ?_
  refine zz_E.kf 10 rfl (by rfl) (by decide) rfl ?_
  refine zz_E.n 11 rfl rfl rfl ?_
  refine zz_E.n 15 rfl rfl rfl ?_
  refine zz_E.ret rfl rfl rfl ?_
  refine zz_E.jf 7 rfl (by rfl) (by decide) rfl ?_
  refine zz_E.n 8 rfl rfl rfl ?_
  refine zz_E.cl (M' := zm_73) 11 rfl rfl (by decide) rfl rfl ⟨rfl, Nat.le_of_ble_eq_true rfl⟩ rfl ?_
  refine zz_E.n 1 rfl rfl rfl ?_
  refine zz_E.jf 4 rfl (by rfl) (by decide) rfl ?_
  refine zz_E.n 5 rfl rfl rfl ?_
  refine zz_E.n 7 rfl rfl rfl ?_
  refine zz_E.kf 10 rfl (by rfl) (by decide) rfl ?_
  refine zz_E.n 11 rfl rfl rfl ?_
  refine zz_E.n 15 rfl rfl rfl ?_
  refine zz_E.ret rfl rfl rfl ?_
  refine zz_E.jt 16 rfl (by rfl) (by decide) rfl ?_
  refine zz_E.n 19 rfl rfl rfl ?_
  refine zz_E.n 20 rfl rfl rfl ?_
  refine zz_E.n 21 rfl rfl rfl ?_
  refine zz_E.n 22 rfl rfl rfl ?_
  refine zz_E.n 25 rfl rfl rfl ?_
  refine zz_E.n 26 rfl rfl rfl ?_
  refine zz_E.n 27 rfl rfl rfl ?_
  refine zz_E.n 29 rfl rfl rfl ?_
  refine zz_E.n 30 rfl rfl rfl ?_
  refine zz_E.n 33 rfl rfl rfl ?_
  refine zz_E.n 34 rfl rfl rfl ?_
  refine zz_E.n 35 rfl rfl rfl ?_
  refine zz_E.jt 48 rfl (by rfl) (by decide) rfl ?_
  refine zz_E.n 49 rfl rfl rfl ?_
  refine zz_E.n 52 rfl rfl rfl ?_
  refine zz_E.n 53 rfl rfl rfl ?_
  refine zz_E.n 54 rfl rfl rfl ?_
  refine zz_E.n 55 rfl rfl rfl ?_
  refine zz_E.n 58 rfl rfl rfl ?_
  refine zz_E.n 60 rfl rfl rfl ?_
  refine zz_E.n 61 rfl rfl rfl ?_
  refine zz_E.kf 64 rfl (by rfl) (by decide) rfl ?_
  refine zz_E.n 65 rfl rfl rfl ?_
  refine zz_E.n 68 rfl rfl rfl ?_
  refine zz_E.n 69 rfl rfl rfl ?_
  refine zz_E.n 70 rfl rfl rfl ?_
  refine zz_E.jt 93 rfl (by rfl) (by decide) rfl ?_
  refine zz_E.n 94 rfl rfl rfl ?_
  refine zz_E.n 98 rfl rfl rfl ?_
  refine zz_E.ret rfl rfl rfl ?_
  refine zz_E.kt 652 rfl (by rfl) (by decide) rfl ?_
  refine zz_E.n 655 rfl rfl rfl ?_
  refine zz_E.n 18 rfl rfl rfl ?_
  refine zz_E.n 19 rfl rfl rfl ?_
  refine zz_E.n 20 rfl rfl rfl ?_
  refine zz_E.n 21 rfl rfl rfl ?_
  refine zz_E.n 23 rfl rfl rfl ?_
  refine zz_E.n 24 rfl rfl rfl ?_
  refine zz_E.kt 658 rfl (by rfl) (by decide) rfl ?_
  refine zz_E.n 659 rfl rfl rfl ?_
  refine zz_E.ret rfl rfl rfl ?_
  exact ⟨rfl, by decide +kernel, by decide +kernel⟩
set_option maxRecDepth 100000 in
set_option maxHeartbeats 8000000 in
theorem zv_k15_4_0 (xs : Nat → Int32) : zz_E zp_P zt_tf zt_fd (zt_X 6 (fun q => if q = 1 then nI 4 else if q = 2 then nI 0 else xs q)) 1000 zm_law 33 zv_L [.int (nI 15)] zv_h zv_Q := by
  refine zz_E.n 579 rfl rfl rfl ?_
  refine zz_E.n 580 rfl rfl rfl ?_
  refine zz_E.n 581 rfl rfl rfl ?_
  refine zz_E.n 582 rfl rfl rfl ?_
  refine zz_E.n 583 rfl rfl rfl ?_
  refine zz_E.n 584 rfl rfl rfl ?_
  refine zz_E.n 585 rfl rfl rfl ?_
  refine zz_E.n 586 rfl rfl rfl ?_
  refine zz_E.n 587 rfl rfl rfl ?_
  refine zz_E.n 588 rfl rfl rfl ?_
  refine zz_E.n 589 rfl rfl rfl ?_
  refine zz_E.n 590 rfl rfl rfl ?_
  refine zz_E.cl (M' := zm_17) 593 rfl rfl (by decide) rfl rfl ⟨rfl, Nat.le_of_ble_eq_true rfl⟩ rfl ?_
  refine zz_E.n 1 rfl rfl rfl ?_
  refine zz_E.cl (M' := zm_21) 4 rfl rfl (by decide) rfl rfl ⟨rfl, Nat.le_of_ble_eq_true rfl⟩ rfl ?_
  refine zz_E.n 1 rfl rfl rfl ?_
  refine zz_E.jf 4 rfl (by rfl) (by decide) rfl ?_
  refine zz_E.n 5 rfl rfl rfl ?_
  refine zz_E.n 7 rfl rfl rfl ?_
  refine zz_E.kf 10 rfl (by rfl) (by decide) rfl ?_
  refine zz_E.n 11 rfl rfl rfl ?_
  refine zz_E.n 15 rfl rfl rfl ?_
  refine zz_E.ret rfl rfl rfl ?_
  refine zz_E.jf 7 rfl (by rfl) (by decide) rfl ?_
  refine zz_E.n 8 rfl rfl rfl ?_
  refine zz_E.cl (M' := zm_21) 11 rfl rfl (by decide) rfl rfl ⟨rfl, Nat.le_of_ble_eq_true rfl⟩ rfl ?_
  refine zz_E.n 1 rfl rfl rfl ?_
  refine zz_E.jf 4 rfl (by rfl) (by decide) rfl ?_
  refine zz_E.n 5 rfl rfl rfl ?_
  refine zz_E.n 7 rfl rfl rfl ?_
  refine zz_E.kf 10 rfl (by rfl) (by decide) rfl ?_
  refine zz_E.n 11 rfl rfl rfl ?_
  refine zz_E.n 15 rfl rfl rfl ?_
  refine zz_E.ret rfl rfl rfl ?_
  refine zz_E.jf 14 rfl (by rfl) (by decide) rfl ?_
  refine zz_E.n 15 rfl rfl rfl ?_
  refine zz_E.n 18 rfl rfl rfl ?_
  refine zz_E.n 19 rfl rfl rfl ?_
  refine zz_E.n 20 rfl rfl rfl ?_
  refine zz_E.cl (M' := zm_27) 23 rfl rfl (by decide) rfl rfl ⟨rfl, Nat.le_of_ble_eq_true rfl⟩ rfl ?_
  refine zz_E.n 1 rfl rfl rfl ?_
  refine zz_E.n 4 rfl rfl rfl ?_
  refine zz_E.n 5 rfl rfl rfl ?_
  refine zz_E.n 6 rfl rfl rfl ?_
  refine zz_E.n 7 rfl rfl rfl ?_
  refine zz_E.n 10 rfl rfl rfl ?_
  refine zz_E.n 11 rfl rfl rfl ?_
  refine zz_E.n 12 rfl rfl rfl ?_
  refine zz_E.kf 15 rfl (by rfl) (by decide) rfl ?_
  refine zz_E.n 16 rfl rfl rfl ?_
  refine zz_E.n 20 rfl rfl rfl ?_
  refine zz_E.n 21 rfl rfl rfl ?_
  refine zz_E.n 22 rfl rfl rfl ?_
  refine zz_E.n 24 rfl rfl rfl ?_
  refine zz_E.n 26 rfl rfl rfl ?_
  refine zz_E.n 27 rfl rfl rfl ?_
  refine zz_E.n 30 rfl rfl rfl ?_
  refine zz_E.n 31 rfl rfl rfl ?_
  refine zz_E.n 32 rfl rfl rfl ?_
  refine zz_E.kt 72 rfl (by rfl) (by decide) rfl ?_
  refine zz_E.n 73 rfl rfl rfl ?_
  refine zz_E.ret rfl rfl rfl ?_
  refine zz_E.jf 26 rfl (by rfl) (by decide) rfl ?_
  refine zz_E.n 27 rfl rfl rfl ?_
  refine zz_E.n 31 rfl rfl rfl ?_
  refine zz_E.ret rfl rfl rfl ?_
  refine zz_E.n 594 rfl rfl rfl ?_
  refine zz_E.n 595 rfl rfl rfl ?_
  refine zz_E.n 596 rfl rfl rfl ?_
  refine zz_E.n 597 rfl rfl rfl ?_
  refine zz_E.n 598 rfl rfl rfl ?_
  refine zz_E.n 599 rfl rfl rfl ?_
  refine zz_E.n 600 rfl rfl rfl ?_
  refine zz_E.n 601 rfl rfl rfl ?_
  refine zz_E.n 602 rfl rfl rfl ?_
  refine zz_E.n 603 rfl rfl rfl ?_
  refine zz_E.n 604 rfl rfl rfl ?_
  refine zz_E.cl (M' := zm_82) 607 rfl rfl (by decide) rfl rfl ⟨rfl, Nat.le_of_ble_eq_true rfl⟩ rfl ?_
  refine zz_E.n 1 rfl rfl rfl ?_
  refine zz_E.cl (M' := zm_73) 4 rfl rfl (by decide) rfl rfl ⟨rfl, Nat.le_of_ble_eq_true rfl⟩ rfl ?_
  refine zz_E.n 1 rfl rfl rfl ?_
  refine zz_E.jf 4 rfl (by rfl) (by decide) rfl ?_
  refine zz_E.n 5 rfl rfl rfl ?_
  refine zz_E.n 7 rfl rfl rfl ?_
  refine zz_E.kf 10 rfl (by rfl) (by decide) rfl ?_
  refine zz_E.n 11 rfl rfl rfl ?_
  refine zz_E.n 15 rfl rfl rfl ?_
  refine zz_E.ret rfl rfl rfl ?_
  refine zz_E.jf 7 rfl (by rfl) (by decide) rfl ?_
  refine zz_E.n 8 rfl rfl rfl ?_
  refine zz_E.cl (M' := zm_73) 11 rfl rfl (by decide) rfl rfl ⟨rfl, Nat.le_of_ble_eq_true rfl⟩ rfl ?_
  refine zz_E.n 1 rfl rfl rfl ?_
  refine zz_E.jf 4 rfl (by rfl) (by decide) rfl ?_
  refine zz_E.n 5 rfl rfl rfl ?_
  refine zz_E.n 7 rfl rfl rfl ?_
  refine zz_E.kf 10 rfl (by rfl) (by decide) rfl ?_
  refine zz_E.n 11 rfl rfl rfl ?_
  refine zz_E.n 15 rfl rfl rfl ?_
  refine zz_E.ret rfl rfl rfl ?_
  refine zz_E.jt 16 rfl (by rfl) (by decide) rfl ?_
  refine zz_E.n 19 rfl rfl rfl ?_
  refine zz_E.n 20 rfl rfl rfl ?_
  refine zz_E.n 21 rfl rfl rfl ?_
  refine zz_E.n 22 rfl rfl rfl ?_
  refine zz_E.n 25 rfl rfl rfl ?_
  refine zz_E.n 26 rfl rfl rfl ?_
  refine zz_E.n 27 rfl rfl rfl ?_
  refine zz_E.n 29 rfl rfl rfl ?_
  refine zz_E.n 30 rfl rfl rfl ?_
  refine zz_E.n 33 rfl rfl rfl ?_
  refine zz_E.n 34 rfl rfl rfl ?_
  refine zz_E.n 35 rfl rfl rfl ?_
  refine zz_E.jt 48 rfl (by rfl) (by decide) rfl ?_
  refine zz_E.n 49 rfl rfl rfl ?_
  refine zz_E.n 52 rfl rfl rfl ?_
  refine zz_E.n 53 rfl rfl rfl ?_
  refine zz_E.n 54 rfl rfl rfl ?_
  refine zz_E.n 55 rfl rfl rfl ?_
  refine zz_E.n 58 rfl rfl rfl ?_
  refine zz_E.n 60 rfl rfl rfl ?_
  refine zz_E.n 61 rfl rfl rfl ?_
  refine zz_E.kf 64 rfl (by rfl) (by decide) rfl ?_
  refine zz_E.n 65 rfl rfl rfl ?_
  refine zz_E.n 68 rfl rfl rfl ?_
  refine zz_E.n 69 rfl rfl rfl ?_
  refine zz_E.n 70 rfl rfl rfl ?_
  refine zz_E.jt 93 rfl (by rfl) (by decide) rfl ?_
  refine zz_E.n 94 rfl rfl rfl ?_
  refine zz_E.n 98 rfl rfl rfl ?_
  refine zz_E.ret rfl rfl rfl ?_
  refine zz_E.kt 652 rfl (by rfl) (by decide) rfl ?_
  refine zz_E.n 655 rfl rfl rfl ?_
  refine zz_E.n 18 rfl rfl rfl ?_
  refine zz_E.n 19 rfl rfl rfl ?_
  refine zz_E.n 20 rfl rfl rfl ?_
  refine zz_E.n 21 rfl rfl rfl ?_
  refine zz_E.n 23 rfl rfl rfl ?_
  refine zz_E.n 24 rfl rfl rfl ?_
  refine zz_E.kt 658 rfl (by rfl) (by decide) rfl ?_
  refine zz_E.n 659 rfl rfl rfl ?_
  refine zz_E.ret rfl rfl rfl ?_
  exact ⟨rfl, by decide +kernel, by decide +kernel⟩
set_option maxRecDepth 100000 in
set_option maxHeartbeats 8000000 in
theorem zv_k15_4_1 (xs : Nat → Int32) : zz_E zp_P zt_tf zt_fd (zt_X 6 (fun q => if q = 1 then nI 4 else if q = 2 then nI 1 else xs q)) 1000 zm_law 33 zv_L [.int (nI 15)] zv_h zv_Q := by
  refine zz_E.n 579 rfl rfl rfl ?_
  refine zz_E.n 580 rfl rfl rfl ?_
  refine zz_E.n 581 rfl rfl rfl ?_
  refine zz_E.n 582 rfl rfl rfl ?_
  refine zz_E.n 583 rfl rfl rfl ?_
  refine zz_E.n 584 rfl rfl rfl ?_
  refine zz_E.n 585 rfl rfl rfl ?_
  refine zz_E.n 586 rfl rfl rfl ?_
  refine zz_E.n 587 rfl rfl rfl ?_
  refine zz_E.n 588 rfl rfl rfl ?_
  refine zz_E.n 589 rfl rfl rfl ?_
  refine zz_E.n 590 rfl rfl rfl ?_
  refine zz_E.cl (M' := zm_17) 593 rfl rfl (by decide) rfl rfl ⟨rfl, Nat.le_of_ble_eq_true rfl⟩ rfl ?_
  refine zz_E.n 1 rfl rfl rfl ?_
  refine zz_E.cl (M' := zm_21) 4 rfl rfl (by decide) rfl rfl ⟨rfl, Nat.le_of_ble_eq_true rfl⟩ rfl ?_
  refine zz_E.n 1 rfl rfl rfl ?_
  refine zz_E.jf 4 rfl (by rfl) (by decide) rfl ?_
  refine zz_E.n 5 rfl rfl rfl ?_
  refine zz_E.n 7 rfl rfl rfl ?_
  refine zz_E.kf 10 rfl (by rfl) (by decide) rfl ?_
  refine zz_E.n 11 rfl rfl rfl ?_
  refine zz_E.n 15 rfl rfl rfl ?_
  refine zz_E.ret rfl rfl rfl ?_
  refine zz_E.jf 7 rfl (by rfl) (by decide) rfl ?_
  refine zz_E.n 8 rfl rfl rfl ?_
  refine zz_E.cl (M' := zm_21) 11 rfl rfl (by decide) rfl rfl ⟨rfl, Nat.le_of_ble_eq_true rfl⟩ rfl ?_
  refine zz_E.n 1 rfl rfl rfl ?_
  refine zz_E.jf 4 rfl (by rfl) (by decide) rfl ?_
  refine zz_E.n 5 rfl rfl rfl ?_
  refine zz_E.n 7 rfl rfl rfl ?_
  refine zz_E.kf 10 rfl (by rfl) (by decide) rfl ?_
  refine zz_E.n 11 rfl rfl rfl ?_
  refine zz_E.n 15 rfl rfl rfl ?_
  refine zz_E.ret rfl rfl rfl ?_
  refine zz_E.jf 14 rfl (by rfl) (by decide) rfl ?_
  refine zz_E.n 15 rfl rfl rfl ?_
  refine zz_E.n 18 rfl rfl rfl ?_
  refine zz_E.n 19 rfl rfl rfl ?_
  refine zz_E.n 20 rfl rfl rfl ?_
  refine zz_E.cl (M' := zm_27) 23 rfl rfl (by decide) rfl rfl ⟨rfl, Nat.le_of_ble_eq_true rfl⟩ rfl ?_
  refine zz_E.n 1 rfl rfl rfl ?_
  refine zz_E.n 4 rfl rfl rfl ?_
  refine zz_E.n 5 rfl rfl rfl ?_
  refine zz_E.n 6 rfl rfl rfl ?_
  refine zz_E.n 7 rfl rfl rfl ?_
  refine zz_E.n 10 rfl rfl rfl ?_
  refine zz_E.n 11 rfl rfl rfl ?_
  refine zz_E.n 12 rfl rfl rfl ?_
  refine zz_E.kf 15 rfl (by rfl) (by decide) rfl ?_
  refine zz_E.n 16 rfl rfl rfl ?_
  refine zz_E.n 20 rfl rfl rfl ?_
  refine zz_E.n 21 rfl rfl rfl ?_
  refine zz_E.n 22 rfl rfl rfl ?_
  refine zz_E.n 24 rfl rfl rfl ?_
  refine zz_E.n 26 rfl rfl rfl ?_
  refine zz_E.n 27 rfl rfl rfl ?_
  refine zz_E.n 30 rfl rfl rfl ?_
  refine zz_E.n 31 rfl rfl rfl ?_
  refine zz_E.n 32 rfl rfl rfl ?_
  refine zz_E.kt 72 rfl (by rfl) (by decide) rfl ?_
  refine zz_E.n 73 rfl rfl rfl ?_
  refine zz_E.ret rfl rfl rfl ?_
  refine zz_E.jf 26 rfl (by rfl) (by decide) rfl ?_
  refine zz_E.n 27 rfl rfl rfl ?_
  refine zz_E.n 31 rfl rfl rfl ?_
  refine zz_E.ret rfl rfl rfl ?_
  refine zz_E.n 594 rfl rfl rfl ?_
  refine zz_E.n 595 rfl rfl rfl ?_
  refine zz_E.n 596 rfl rfl rfl ?_
  refine zz_E.n 597 rfl rfl rfl ?_
  refine zz_E.n 598 rfl rfl rfl ?_
  refine zz_E.n 599 rfl rfl rfl ?_
  refine zz_E.n 600 rfl rfl rfl ?_
  refine zz_E.n 601 rfl rfl rfl ?_
  refine zz_E.n 602 rfl rfl rfl ?_
  refine zz_E.n 603 rfl rfl rfl ?_
  refine zz_E.n 604 rfl rfl rfl ?_
  refine zz_E.cl (M' := zm_82) 607 rfl rfl (by decide) rfl rfl ⟨rfl, Nat.le_of_ble_eq_true rfl⟩ rfl ?_
  refine zz_E.n 1 rfl rfl rfl ?_
  refine zz_E.cl (M' := zm_73) 4 rfl rfl (by decide) rfl rfl ⟨rfl, Nat.le_of_ble_eq_true rfl⟩ rfl ?_
  refine zz_E.n 1 rfl rfl rfl ?_
  refine zz_E.jf 4 rfl (by rfl) (by decide) rfl ?_
  refine zz_E.n 5 rfl rfl rfl ?_
  refine zz_E.n 7 rfl rfl rfl ?_
  refine zz_E.kf 10 rfl (by rfl) (by decide) rfl ?_
  refine zz_E.n 11 rfl rfl rfl ?_
  refine zz_E.n 15 rfl rfl rfl ?_
  refine zz_E.ret rfl rfl rfl ?_
  refine zz_E.jf 7 rfl (by rfl) (by decide) rfl ?_
  refine zz_E.n 8 rfl rfl rfl ?_
  refine zz_E.cl (M' := zm_73) 11 rfl rfl (by decide) rfl rfl ⟨rfl, Nat.le_of_ble_eq_true rfl⟩ rfl ?_
  refine zz_E.n 1 rfl rfl rfl ?_
  refine zz_E.jf 4 rfl (by rfl) (by decide) rfl ?_
  refine zz_E.n 5 rfl rfl rfl ?_
  refine zz_E.n 7 rfl rfl rfl ?_
  refine zz_E.kf 10 rfl (by rfl) (by decide) rfl ?_
  refine zz_E.n 11 rfl rfl rfl ?_
  refine zz_E.n 15 rfl rfl rfl ?_
  refine zz_E.ret rfl rfl rfl ?_
  refine zz_E.jt 16 rfl (by rfl) (by decide) rfl ?_
  refine zz_E.n 19 rfl rfl rfl ?_
  refine zz_E.n 20 rfl rfl rfl ?_
  refine zz_E.n 21 rfl rfl rfl ?_
  refine zz_E.n 22 rfl rfl rfl ?_
  refine zz_E.n 25 rfl rfl rfl ?_
  refine zz_E.n 26 rfl rfl rfl ?_
  refine zz_E.n 27 rfl rfl rfl ?_
  refine zz_E.n 29 rfl rfl rfl ?_
  refine zz_E.n 30 rfl rfl rfl ?_
  refine zz_E.n 33 rfl rfl rfl ?_
  refine zz_E.n 34 rfl rfl rfl ?_
  refine zz_E.n 35 rfl rfl rfl ?_
  refine zz_E.jt 48 rfl (by rfl) (by decide) rfl ?_
  refine zz_E.n 49 rfl rfl rfl ?_
  refine zz_E.n 52 rfl rfl rfl ?_
  refine zz_E.n 53 rfl rfl rfl ?_
  refine zz_E.n 54 rfl rfl rfl ?_
  refine zz_E.n 55 rfl rfl rfl ?_
  refine zz_E.n 58 rfl rfl rfl ?_
  refine zz_E.n 60 rfl rfl rfl ?_
  refine zz_E.n 61 rfl rfl rfl ?_
  refine zz_E.kf 64 rfl (by rfl) (by decide) rfl ?_
  refine zz_E.n 65 rfl rfl rfl ?_
  refine zz_E.n 68 rfl rfl rfl ?_
  refine zz_E.n 69 rfl rfl rfl ?_
  refine zz_E.n 70 rfl rfl rfl ?_
  refine zz_E.jt 93 rfl (by rfl) (by decide) rfl ?_
  refine zz_E.n 94 rfl rfl rfl ?_
  refine zz_E.n 98 rfl rfl rfl ?_
  refine zz_E.ret rfl rfl rfl ?_
  refine zz_E.kt 652 rfl (by rfl) (by decide) rfl ?_
  refine zz_E.n 655 rfl rfl rfl ?_
  refine zz_E.n 18 rfl rfl rfl ?_
  refine zz_E.n 19 rfl rfl rfl ?_
  refine zz_E.n 20 rfl rfl rfl ?_
  refine zz_E.n 21 rfl rfl rfl ?_
  refine zz_E.n 23 rfl rfl rfl ?_
  refine zz_E.n 24 rfl rfl rfl ?_
  refine zz_E.kt 658 rfl (by rfl) (by decide) rfl ?_
  refine zz_E.n 659 rfl rfl rfl ?_
  refine zz_E.ret rfl rfl rfl ?_
  exact ⟨rfl, by decide +kernel, by decide +kernel⟩
set_option maxRecDepth 100000 in
set_option maxHeartbeats 8000000 in
theorem zv_k15_4_2 (xs : Nat → Int32) : zz_E zp_P zt_tf zt_fd (zt_X 6 (fun q => if q = 1 then nI 4 else if q = 2 then nI 2 else xs q)) 1000 zm_law 33 zv_L [.int (nI 15)] zv_h zv_Q := by
  refine zz_E.n 579 rfl rfl rfl ?_
  refine zz_E.n 580 rfl rfl rfl ?_
  refine zz_E.n 581 rfl rfl rfl ?_
  refine zz_E.n 582 rfl rfl rfl ?_
  refine zz_E.n 583 rfl rfl rfl ?_
  refine zz_E.n 584 rfl rfl rfl ?_
  refine zz_E.n 585 rfl rfl rfl ?_
  refine zz_E.n 586 rfl rfl rfl ?_
  refine zz_E.n 587 rfl rfl rfl ?_
  refine zz_E.n 588 rfl rfl rfl ?_
  refine zz_E.n 589 rfl rfl rfl ?_
  refine zz_E.n 590 rfl rfl rfl ?_
  refine zz_E.cl (M' := zm_17) 593 rfl rfl (by decide) rfl rfl ⟨rfl, Nat.le_of_ble_eq_true rfl⟩ rfl ?_
  refine zz_E.n 1 rfl rfl rfl ?_
  refine zz_E.cl (M' := zm_21) 4 rfl rfl (by decide) rfl rfl ⟨rfl, Nat.le_of_ble_eq_true rfl⟩ rfl ?_
  refine zz_E.n 1 rfl rfl rfl ?_
  refine zz_E.jf 4 rfl (by rfl) (by decide) rfl ?_
  refine zz_E.n 5 rfl rfl rfl ?_
  refine zz_E.n 7 rfl rfl rfl ?_
  refine zz_E.kf 10 rfl (by rfl) (by decide) rfl ?_
  refine zz_E.n 11 rfl rfl rfl ?_
  refine zz_E.n 15 rfl rfl rfl ?_
  refine zz_E.ret rfl rfl rfl ?_
  refine zz_E.jf 7 rfl (by rfl) (by decide) rfl ?_
  refine zz_E.n 8 rfl rfl rfl ?_
  refine zz_E.cl (M' := zm_21) 11 rfl rfl (by decide) rfl rfl ⟨rfl, Nat.le_of_ble_eq_true rfl⟩ rfl ?_
  refine zz_E.n 1 rfl rfl rfl ?_
  refine zz_E.jf 4 rfl (by rfl) (by decide) rfl ?_
  refine zz_E.n 5 rfl rfl rfl ?_
  refine zz_E.n 7 rfl rfl rfl ?_
  refine zz_E.kf 10 rfl (by rfl) (by decide) rfl ?_
  refine zz_E.n 11 rfl rfl rfl ?_
  refine zz_E.n 15 rfl rfl rfl ?_
  refine zz_E.ret rfl rfl rfl ?_
  refine zz_E.jf 14 rfl (by rfl) (by decide) rfl ?_
  refine zz_E.n 15 rfl rfl rfl ?_
  refine zz_E.n 18 rfl rfl rfl ?_
  refine zz_E.n 19 rfl rfl rfl ?_
  refine zz_E.n 20 rfl rfl rfl ?_
  refine zz_E.cl (M' := zm_27) 23 rfl rfl (by decide) rfl rfl ⟨rfl, Nat.le_of_ble_eq_true rfl⟩ rfl ?_
  refine zz_E.n 1 rfl rfl rfl ?_
  refine zz_E.n 4 rfl rfl rfl ?_
  refine zz_E.n 5 rfl rfl rfl ?_
  refine zz_E.n 6 rfl rfl rfl ?_
  refine zz_E.n 7 rfl rfl rfl ?_
  refine zz_E.n 10 rfl rfl rfl ?_
  refine zz_E.n 11 rfl rfl rfl ?_
  refine zz_E.n 12 rfl rfl rfl ?_
  refine zz_E.kf 15 rfl (by rfl) (by decide) rfl ?_
  refine zz_E.n 16 rfl rfl rfl ?_
  refine zz_E.n 20 rfl rfl rfl ?_
  refine zz_E.n 21 rfl rfl rfl ?_
  refine zz_E.n 22 rfl rfl rfl ?_
  refine zz_E.n 24 rfl rfl rfl ?_
  refine zz_E.n 26 rfl rfl rfl ?_
  refine zz_E.n 27 rfl rfl rfl ?_
  refine zz_E.n 30 rfl rfl rfl ?_
  refine zz_E.n 31 rfl rfl rfl ?_
  refine zz_E.n 32 rfl rfl rfl ?_
  refine zz_E.kt 72 rfl (by rfl) (by decide) rfl ?_
  refine zz_E.n 73 rfl rfl rfl ?_
  refine zz_E.ret rfl rfl rfl ?_
  refine zz_E.jf 26 rfl (by rfl) (by decide) rfl ?_
  refine zz_E.n 27 rfl rfl rfl ?_
  refine zz_E.n 31 rfl rfl rfl ?_
  refine zz_E.ret rfl rfl rfl ?_
  refine zz_E.n 594 rfl rfl rfl ?_
  refine zz_E.n 595 rfl rfl rfl ?_
  refine zz_E.n 596 rfl rfl rfl ?_
  refine zz_E.n 597 rfl rfl rfl ?_
  refine zz_E.n 598 rfl rfl rfl ?_
  refine zz_E.n 599 rfl rfl rfl ?_
  refine zz_E.n 600 rfl rfl rfl ?_
  refine zz_E.n 601 rfl rfl rfl ?_
  refine zz_E.n 602 rfl rfl rfl ?_
  refine zz_E.n 603 rfl rfl rfl ?_
  refine zz_E.n 604 rfl rfl rfl ?_
  refine zz_E.cl (M' := zm_82) 607 rfl rfl (by decide) rfl rfl ⟨rfl, Nat.le_of_ble_eq_true rfl⟩ rfl ?_
  refine zz_E.n 1 rfl rfl rfl ?_
  refine zz_E.cl (M' := zm_73) 4 rfl rfl (by decide) rfl rfl ⟨rfl, Nat.le_of_ble_eq_true rfl⟩ rfl ?_
  refine zz_E.n 1 rfl rfl rfl ?_
  refine zz_E.jf 4 rfl (by rfl) (by decide) rfl ?_
  refine zz_E.n 5 rfl rfl rfl ?_
  refine zz_E.n 7 rfl rfl rfl ?_
  refine zz_E.kf 10 rfl (by rfl) (by decide) rfl ?_
  refine zz_E.n 11 rfl rfl rfl ?_
  refine zz_E.n 15 rfl rfl rfl ?_
  refine zz_E.ret rfl rfl rfl ?_
  refine zz_E.jf 7 rfl (by rfl) (by decide) rfl ?_
  refine zz_E.n 8 rfl rfl rfl ?_
  refine zz_E.cl (M' := zm_73) 11 rfl rfl (by decide) rfl rfl ⟨rfl, Nat.le_of_ble_eq_true rfl⟩ rfl ?_
  refine zz_E.n 1 rfl rfl rfl ?_
  refine zz_E.jf 4 rfl (by rfl) (by decide) rfl ?_
  refine zz_E.n 5 rfl rfl rfl ?_
  refine zz_E.n 7 rfl rfl rfl ?_
  refine zz_E.kf 10 rfl (by rfl) (by decide) rfl ?_
  refine zz_E.n 11 rfl rfl rfl ?_
  refine zz_E.n 15 rfl rfl rfl ?_
  refine zz_E.ret rfl rfl rfl ?_
  refine zz_E.jt 16 rfl (by rfl) (by decide) rfl ?_
  refine zz_E.n 19 rfl rfl rfl ?_
  refine zz_E.n 20 rfl rfl rfl ?_
  refine zz_E.n 21 rfl rfl rfl ?_
  refine zz_E.n 22 rfl rfl rfl ?_
  refine zz_E.n 25 rfl rfl rfl ?_
  refine zz_E.n 26 rfl rfl rfl ?_
  refine zz_E.n 27 rfl rfl rfl ?_
  refine zz_E.n 29 rfl rfl rfl ?_
  refine zz_E.n 30 rfl rfl rfl ?_
  refine zz_E.n 33 rfl rfl rfl ?_
  refine zz_E.n 34 rfl rfl rfl ?_
  refine zz_E.n 35 rfl rfl rfl ?_
  refine zz_E.jt 48 rfl (by rfl) (by decide) rfl ?_
  refine zz_E.n 49 rfl rfl rfl ?_
  refine zz_E.n 52 rfl rfl rfl ?_
  refine zz_E.n 53 rfl rfl rfl ?_
  refine zz_E.n 54 rfl rfl rfl ?_
  refine zz_E.n 55 rfl rfl rfl ?_
  refine zz_E.n 58 rfl rfl rfl ?_
  refine zz_E.n 60 rfl rfl rfl ?_
  refine zz_E.n 61 rfl rfl rfl ?_
  refine zz_E.kf 64 rfl (by rfl) (by decide) rfl ?_
  refine zz_E.n 65 rfl rfl rfl ?_
  refine zz_E.n 68 rfl rfl rfl ?_
  refine zz_E.n 69 rfl rfl rfl ?_
  refine zz_E.n 70 rfl rfl rfl ?_
  refine zz_E.jt 93 rfl (by rfl) (by decide) rfl ?_
  refine zz_E.n 94 rfl rfl rfl ?_
  refine zz_E.n 98 rfl rfl rfl ?_
  refine zz_E.ret rfl rfl rfl ?_
  refine zz_E.kt 652 rfl (by rfl) (by decide) rfl ?_
  refine zz_E.n 655 rfl rfl rfl ?_
  refine zz_E.n 18 rfl rfl rfl ?_
  refine zz_E.n 19 rfl rfl rfl ?_
  refine zz_E.n 20 rfl rfl rfl ?_
  refine zz_E.n 21 rfl rfl rfl ?_
  refine zz_E.n 23 rfl rfl rfl ?_
  refine zz_E.n 24 rfl rfl rfl ?_
  refine zz_E.kt 658 rfl (by rfl) (by decide) rfl ?_
  refine zz_E.n 659 rfl rfl rfl ?_
  refine zz_E.ret rfl rfl rfl ?_
  exact ⟨rfl, by decide +kernel, by decide +kernel⟩
set_option maxRecDepth 100000 in
set_option maxHeartbeats 8000000 in
theorem zv_k15_4_3 (xs : Nat → Int32) : zz_E zp_P zt_tf zt_fd (zt_X 6 (fun q => if q = 1 then nI 4 else if q = 2 then nI 3 else xs q)) 1000 zm_law 33 zv_L [.int (nI 15)] zv_h zv_Q := by
  refine zz_E.n 579 rfl rfl rfl ?_
  refine zz_E.n 580 rfl rfl rfl ?_
  refine zz_E.n 581 rfl rfl rfl ?_
  refine zz_E.n 582 rfl rfl rfl ?_
  refine zz_E.n 583 rfl rfl rfl ?_
  refine zz_E.n 584 rfl rfl rfl ?_
  refine zz_E.n 585 rfl rfl rfl ?_
  refine zz_E.n 586 rfl rfl rfl ?_
  refine zz_E.n 587 rfl rfl rfl ?_
  refine zz_E.n 588 rfl rfl rfl ?_
  refine zz_E.n 589 rfl rfl rfl ?_
  refine zz_E.n 590 rfl rfl rfl ?_
  refine zz_E.cl (M' := zm_17) 593 rfl rfl (by decide) rfl rfl ⟨rfl, Nat.le_of_ble_eq_true rfl⟩ rfl ?_
  refine zz_E.n 1 rfl rfl rfl ?_
  refine zz_E.cl (M' := zm_21) 4 rfl rfl (by decide) rfl rfl ⟨rfl, Nat.le_of_ble_eq_true rfl⟩ rfl ?_
  refine zz_E.n 1 rfl rfl rfl ?_
  refine zz_E.jf 4 rfl (by rfl) (by decide) rfl ?_
  refine zz_E.n 5 rfl rfl rfl ?_
  refine zz_E.n 7 rfl rfl rfl ?_
  refine zz_E.kf 10 rfl (by rfl) (by decide) rfl ?_
  refine zz_E.n 11 rfl rfl rfl ?_
  refine zz_E.n 15 rfl rfl rfl ?_
  refine zz_E.ret rfl rfl rfl ?_
  refine zz_E.jf 7 rfl (by rfl) (by decide) rfl ?_
  refine zz_E.n 8 rfl rfl rfl ?_
  refine zz_E.cl (M' := zm_21) 11 rfl rfl (by decide) rfl rfl ⟨rfl, Nat.le_of_ble_eq_true rfl⟩ rfl ?_
  refine zz_E.n 1 rfl rfl rfl ?_
  refine zz_E.jf 4 rfl (by rfl) (by decide) rfl ?_
  refine zz_E.n 5 rfl rfl rfl ?_
  refine zz_E.n 7 rfl rfl rfl ?_
  refine zz_E.kf 10 rfl (by rfl) (by decide) rfl ?_
  refine zz_E.n 11 rfl rfl rfl ?_
  refine zz_E.n 15 rfl rfl rfl ?_
  refine zz_E.ret rfl rfl rfl ?_
  refine zz_E.jf 14 rfl (by rfl) (by decide) rfl ?_
  refine zz_E.n 15 rfl rfl rfl ?_
  refine zz_E.n 18 rfl rfl rfl ?_
  refine zz_E.n 19 rfl rfl rfl ?_
  refine zz_E.n 20 rfl rfl rfl ?_
  refine zz_E.cl (M' := zm_27) 23 rfl rfl (by decide) rfl rfl ⟨rfl, Nat.le_of_ble_eq_true rfl⟩ rfl ?_
  refine zz_E.n 1 rfl rfl rfl ?_
  refine zz_E.n 4 rfl rfl rfl ?_
  refine zz_E.n 5 rfl rfl rfl ?_
  refine zz_E.n 6 rfl rfl rfl ?_
  refine zz_E.n 7 rfl rfl rfl ?_
  refine zz_E.n 10 rfl rfl rfl ?_
  refine zz_E.n 11 rfl rfl rfl ?_
  refine zz_E.n 12 rfl rfl rfl ?_
  refine zz_E.kf 15 rfl (by rfl) (by decide) rfl ?_
  refine zz_E.n 16 rfl rfl rfl ?_
  refine zz_E.n 20 rfl rfl rfl ?_
  refine zz_E.n 21 rfl rfl rfl ?_
  refine zz_E.n 22 rfl rfl rfl ?_
  refine zz_E.n 24 rfl rfl rfl ?_
  refine zz_E.n 26 rfl rfl rfl ?_
  refine zz_E.n 27 rfl rfl rfl ?_
  refine zz_E.n 30 rfl rfl rfl ?_
  refine zz_E.n 31 rfl rfl rfl ?_
  refine zz_E.n 32 rfl rfl rfl ?_
  refine zz_E.kt 72 rfl (by rfl) (by decide) rfl ?_
  refine zz_E.n 73 rfl rfl rfl ?_
  refine zz_E.ret rfl rfl rfl ?_
  refine zz_E.jf 26 rfl (by rfl) (by decide) rfl ?_
  refine zz_E.n 27 rfl rfl rfl ?_
  refine zz_E.n 31 rfl rfl rfl ?_
  refine zz_E.ret rfl rfl rfl ?_
  refine zz_E.n 594 rfl rfl rfl ?_
  refine zz_E.n 595 rfl rfl rfl ?_
  refine zz_E.n 596 rfl rfl rfl ?_
  refine zz_E.n 597 rfl rfl rfl ?_
  refine zz_E.n 598 rfl rfl rfl ?_
  refine zz_E.n 599 rfl rfl rfl ?_
  refine zz_E.n 600 rfl rfl rfl ?_
  refine zz_E.n 601 rfl rfl rfl ?_
  refine zz_E.n 602 rfl rfl rfl ?_
  refine zz_E.n 603 rfl rfl rfl ?_
  refine zz_E.n 604 rfl rfl rfl ?_
  refine zz_E.cl (M' := zm_82) 607 rfl rfl (by decide) rfl rfl ⟨rfl, Nat.le_of_ble_eq_true rfl⟩ rfl ?_
  refine zz_E.n 1 rfl rfl rfl ?_
  refine zz_E.cl (M' := zm_73) 4 rfl rfl (by decide) rfl rfl ⟨rfl, Nat.le_of_ble_eq_true rfl⟩ rfl ?_
  refine zz_E.n 1 rfl rfl rfl ?_
  refine zz_E.jf 4 rfl (by rfl) (by decide) rfl ?_
  refine zz_E.n 5 rfl rfl rfl ?_
  refine zz_E.n 7 rfl rfl rfl ?_
  refine zz_E.kf 10 rfl (by rfl) (by decide) rfl ?_
  refine zz_E.n 11 rfl rfl rfl ?_
  refine zz_E.n 15 rfl rfl rfl ?_
  refine zz_E.ret rfl rfl rfl ?_
  refine zz_E.jf 7 rfl (by rfl) (by decide) rfl ?_
  refine zz_E.n 8 rfl rfl rfl ?_
  refine zz_E.cl (M' := zm_73) 11 rfl rfl (by decide) rfl rfl ⟨rfl, Nat.le_of_ble_eq_true rfl⟩ rfl ?_
  refine zz_E.n 1 rfl rfl rfl ?_
  refine zz_E.jf 4 rfl (by rfl) (by decide) rfl ?_
  refine zz_E.n 5 rfl rfl rfl ?_
  refine zz_E.n 7 rfl rfl rfl ?_
  refine zz_E.kf 10 rfl (by rfl) (by decide) rfl ?_
  refine zz_E.n 11 rfl rfl rfl ?_
  refine zz_E.n 15 rfl rfl rfl ?_
  refine zz_E.ret rfl rfl rfl ?_
  refine zz_E.jt 16 rfl (by rfl) (by decide) rfl ?_
  refine zz_E.n 19 rfl rfl rfl ?_
  refine zz_E.n 20 rfl rfl rfl ?_
  refine zz_E.n 21 rfl rfl rfl ?_
  refine zz_E.n 22 rfl rfl rfl ?_
  refine zz_E.n 25 rfl rfl rfl ?_
  refine zz_E.n 26 rfl rfl rfl ?_
  refine zz_E.n 27 rfl rfl rfl ?_
  refine zz_E.n 29 rfl rfl rfl ?_
  refine zz_E.n 30 rfl rfl rfl ?_
  refine zz_E.n 33 rfl rfl rfl ?_
  refine zz_E.n 34 rfl rfl rfl ?_
  refine zz_E.n 35 rfl rfl rfl ?_
  refine zz_E.jt 48 rfl (by rfl) (by decide) rfl ?_
  refine zz_E.n 49 rfl rfl rfl ?_
  refine zz_E.n 52 rfl rfl rfl ?_
  refine zz_E.n 53 rfl rfl rfl ?_
  refine zz_E.n 54 rfl rfl rfl ?_
  refine zz_E.n 55 rfl rfl rfl ?_
  refine zz_E.n 58 rfl rfl rfl ?_
  refine zz_E.n 60 rfl rfl rfl ?_
  refine zz_E.n 61 rfl rfl rfl ?_
  refine zz_E.kf 64 rfl (by rfl) (by decide) rfl ?_
  refine zz_E.n 65 rfl rfl rfl ?_
  refine zz_E.n 68 rfl rfl rfl ?_
  refine zz_E.n 69 rfl rfl rfl ?_
  refine zz_E.n 70 rfl rfl rfl ?_
  refine zz_E.jt 93 rfl (by rfl) (by decide) rfl ?_
  refine zz_E.n 94 rfl rfl rfl ?_
  refine zz_E.n 98 rfl rfl rfl ?_
  refine zz_E.ret rfl rfl rfl ?_
  refine zz_E.kt 652 rfl (by rfl) (by decide) rfl ?_
  refine zz_E.n 655 rfl rfl rfl ?_
  refine zz_E.n 18 rfl rfl rfl ?_
  refine zz_E.n 19 rfl rfl rfl ?_
  refine zz_E.n 20 rfl rfl rfl ?_
  refine zz_E.n 21 rfl rfl rfl ?_
  refine zz_E.n 23 rfl rfl rfl ?_
  refine zz_E.n 24 rfl rfl rfl ?_
  refine zz_E.kt 658 rfl (by rfl) (by decide) rfl ?_
  refine zz_E.n 659 rfl rfl rfl ?_
  refine zz_E.ret rfl rfl rfl ?_
  exact ⟨rfl, by decide +kernel, by decide +kernel⟩
set_option maxRecDepth 100000 in
set_option maxHeartbeats 8000000 in
theorem zv_k15_4_4 (xs : Nat → Int32) : zz_E zp_P zt_tf zt_fd (zt_X 6 (fun q => if q = 1 then nI 4 else if q = 2 then nI 4 else xs q)) 1000 zm_law 33 zv_L [.int (nI 15)] zv_h zv_Q := by
  refine zz_E.n 579 rfl rfl rfl ?_
  refine zz_E.n 580 rfl rfl rfl ?_
  refine zz_E.n 581 rfl rfl rfl ?_
  refine zz_E.n 582 rfl rfl rfl ?_
  refine zz_E.n 583 rfl rfl rfl ?_
  refine zz_E.n 584 rfl rfl rfl ?_
  refine zz_E.n 585 rfl rfl rfl ?_
  refine zz_E.n 586 rfl rfl rfl ?_
  refine zz_E.n 587 rfl rfl rfl ?_
  refine zz_E.n 588 rfl rfl rfl ?_
  refine zz_E.n 589 rfl rfl rfl ?_
  refine zz_E.n 590 rfl rfl rfl ?_
  refine zz_E.cl (M' := zm_17) 593 rfl rfl (by decide) rfl rfl ⟨rfl, Nat.le_of_ble_eq_true rfl⟩ rfl ?_
  refine zz_E.n 1 rfl rfl rfl ?_
  refine zz_E.cl (M' := zm_21) 4 rfl rfl (by decide) rfl rfl ⟨rfl, Nat.le_of_ble_eq_true rfl⟩ rfl ?_
  refine zz_E.n 1 rfl rfl rfl ?_
  refine zz_E.jf 4 rfl (by rfl) (by decide) rfl ?_
  refine zz_E.n 5 rfl rfl rfl ?_
  refine zz_E.n 7 rfl rfl rfl ?_
  refine zz_E.kf 10 rfl (by rfl) (by decide) rfl ?_
  refine zz_E.n 11 rfl rfl rfl ?_
  refine zz_E.n 15 rfl rfl rfl ?_
  refine zz_E.ret rfl rfl rfl ?_
  refine zz_E.jf 7 rfl (by rfl) (by decide) rfl ?_
  refine zz_E.n 8 rfl rfl rfl ?_
  refine zz_E.cl (M' := zm_21) 11 rfl rfl (by decide) rfl rfl ⟨rfl, Nat.le_of_ble_eq_true rfl⟩ rfl ?_
  refine zz_E.n 1 rfl rfl rfl ?_
  refine zz_E.jf 4 rfl (by rfl) (by decide) rfl ?_
  refine zz_E.n 5 rfl rfl rfl ?_
  refine zz_E.n 7 rfl rfl rfl ?_
  refine zz_E.kf 10 rfl (by rfl) (by decide) rfl ?_
  refine zz_E.n 11 rfl rfl rfl ?_
  refine zz_E.n 15 rfl rfl rfl ?_
  refine zz_E.ret rfl rfl rfl ?_
  refine zz_E.jf 14 rfl (by rfl) (by decide) rfl ?_
  refine zz_E.n 15 rfl rfl rfl ?_
  refine zz_E.n 18 rfl rfl rfl ?_
  refine zz_E.n 19 rfl rfl rfl ?_
  refine zz_E.n 20 rfl rfl rfl ?_
  refine zz_E.cl (M' := zm_27) 23 rfl rfl (by decide) rfl rfl ⟨rfl, Nat.le_of_ble_eq_true rfl⟩ rfl ?_
  refine zz_E.n 1 rfl rfl rfl ?_
  refine zz_E.n 4 rfl rfl rfl ?_
  refine zz_E.n 5 rfl rfl rfl ?_
  refine zz_E.n 6 rfl rfl rfl ?_
  refine zz_E.n 7 rfl rfl rfl ?_
  refine zz_E.n 10 rfl rfl rfl ?_
  refine zz_E.n 11 rfl rfl rfl ?_
  refine zz_E.n 12 rfl rfl rfl ?_
  refine zz_E.kf 15 rfl (by rfl) (by decide) rfl ?_
  refine zz_E.n 16 rfl rfl rfl ?_
  refine zz_E.n 20 rfl rfl rfl ?_
  refine zz_E.n 21 rfl rfl rfl ?_
  refine zz_E.n 22 rfl rfl rfl ?_
  refine zz_E.n 24 rfl rfl rfl ?_
  refine zz_E.n 26 rfl rfl rfl ?_
  refine zz_E.n 27 rfl rfl rfl ?_
  refine zz_E.n 30 rfl rfl rfl ?_
  refine zz_E.n 31 rfl rfl rfl ?_
  refine zz_E.n 32 rfl rfl rfl ?_
  refine zz_E.kt 72 rfl (by rfl) (by decide) rfl ?_
  refine zz_E.n 73 rfl rfl rfl ?_
  refine zz_E.ret rfl rfl rfl ?_
  refine zz_E.jf 26 rfl (by rfl) (by decide) rfl ?_
  refine zz_E.n 27 rfl rfl rfl ?_
  refine zz_E.n 31 rfl rfl rfl ?_
  refine zz_E.ret rfl rfl rfl ?_
  refine zz_E.n 594 rfl rfl rfl ?_
  refine zz_E.n 595 rfl rfl rfl ?_
  refine zz_E.n 596 rfl rfl rfl ?_
  refine zz_E.n 597 rfl rfl rfl ?_
  refine zz_E.n 598 rfl rfl rfl ?_
  refine zz_E.n 599 rfl rfl rfl ?_
  refine zz_E.n 600 rfl rfl rfl ?_
  refine zz_E.n 601 rfl rfl rfl ?_
  refine zz_E.n 602 rfl rfl rfl ?_
  refine zz_E.n 603 rfl rfl rfl ?_
  refine zz_E.n 604 rfl rfl rfl ?_
  refine zz_E.cl (M' := zm_82) 607 rfl rfl (by decide) rfl rfl ⟨rfl, Nat.le_of_ble_eq_true rfl⟩ rfl ?_
  refine zz_E.n 1 rfl rfl rfl ?_
  refine zz_E.cl (M' := zm_73) 4 rfl rfl (by decide) rfl rfl ⟨rfl, Nat.le_of_ble_eq_true rfl⟩ rfl ?_
  refine zz_E.n 1 rfl rfl rfl ?_
  refine zz_E.jf 4 rfl (by rfl) (by decide) rfl ?_
  refine zz_E.n 5 rfl rfl rfl ?_
  refine zz_E.n 7 rfl rfl rfl ?_
  refine zz_E.kf 10 rfl (by rfl) (by decide) rfl ?_
  refine zz_E.n 11 rfl rfl rfl ?_
  refine zz_E.n 15 rfl rfl rfl ?_
  refine zz_E.ret rfl rfl rfl ?_
  refine zz_E.jf 7 rfl (by rfl) (by decide) rfl ?_
  refine zz_E.n 8 rfl rfl rfl ?_
  refine zz_E.cl (M' := zm_73) 11 rfl rfl (by decide) rfl rfl ⟨rfl, Nat.le_of_ble_eq_true rfl⟩ rfl ?_
  refine zz_E.n 1 rfl rfl rfl ?_
  refine zz_E.jf 4 rfl (by rfl) (by decide) rfl ?_
  refine zz_E.n 5 rfl rfl rfl ?_
  refine zz_E.n 7 rfl rfl rfl ?_
  refine zz_E.kf 10 rfl (by rfl) (by decide) rfl ?_
  refine zz_E.n 11 rfl rfl rfl ?_
  refine zz_E.n 15 rfl rfl rfl ?_
  refine zz_E.ret rfl rfl rfl ?_
  refine zz_E.jt 16 rfl (by rfl) (by decide) rfl ?_
  refine zz_E.n 19 rfl rfl rfl ?_
  refine zz_E.n 20 rfl rfl rfl ?_
  refine zz_E.n 21 rfl rfl rfl ?_
  refine zz_E.n 22 rfl rfl rfl ?_
  refine zz_E.n 25 rfl rfl rfl ?_
  refine zz_E.n 26 rfl rfl rfl ?_
  refine zz_E.n 27 rfl rfl rfl ?_
  refine zz_E.n 29 rfl rfl rfl ?_
  refine zz_E.n 30 rfl rfl rfl ?_
  refine zz_E.n 33 rfl rfl rfl ?_
  refine zz_E.n 34 rfl rfl rfl ?_
  refine zz_E.n 35 rfl rfl rfl ?_
  refine zz_E.jt 48 rfl (by rfl) (by decide) rfl ?_
  refine zz_E.n 49 rfl rfl rfl ?_
  refine zz_E.n 52 rfl rfl rfl ?_
  refine zz_E.n 53 rfl rfl rfl ?_
  refine zz_E.n 54 rfl rfl rfl ?_
  refine zz_E.n 55 rfl rfl rfl ?_
  refine zz_E.n 58 rfl rfl rfl ?_
  refine zz_E.n 60 rfl rfl rfl ?_
  refine zz_E.n 61 rfl rfl rfl ?_
  refine zz_E.kf 64 rfl (by rfl) (by decide) rfl ?_
  refine zz_E.n 65 rfl rfl rfl ?_
  refine zz_E.n 68 rfl rfl rfl ?_
  refine zz_E.n 69 rfl rfl rfl ?_
  refine zz_E.n 70 rfl rfl rfl ?_
  refine zz_E.jt 93 rfl (by rfl) (by decide) rfl ?_
  refine zz_E.n 94 rfl rfl rfl ?_
  refine zz_E.n 98 rfl rfl rfl ?_
  refine zz_E.ret rfl rfl rfl ?_
  refine zz_E.kt 652 rfl (by rfl) (by decide) rfl ?_
  refine zz_E.n 655 rfl rfl rfl ?_
  refine zz_E.n 18 rfl rfl rfl ?_
  refine zz_E.n 19 rfl rfl rfl ?_
  refine zz_E.n 20 rfl rfl rfl ?_
  refine zz_E.n 21 rfl rfl rfl ?_
  refine zz_E.n 23 rfl rfl rfl ?_
  refine zz_E.n 24 rfl rfl rfl ?_
  refine zz_E.kt 658 rfl (by rfl) (by decide) rfl ?_
  refine zz_E.n 659 rfl rfl rfl ?_
  refine zz_E.ret rfl rfl rfl ?_
  exact ⟨rfl, by decide +kernel, by decide +kernel⟩
set_option maxRecDepth 100000 in
set_option maxHeartbeats 8000000 in
theorem zv_k15_4_5 (xs : Nat → Int32) : zz_E zp_P zt_tf zt_fd (zt_X 6 (fun q => if q = 1 then nI 4 else if q = 2 then nI 5 else xs q)) 1000 zm_law 33 zv_L [.int (nI 15)] zv_h zv_Q := by
  refine zz_E.n 579 rfl rfl rfl ?_
  refine zz_E.n 580 rfl rfl rfl ?_
  refine zz_E.n 581 rfl rfl rfl ?_
  refine zz_E.n 582 rfl rfl rfl ?_
  refine zz_E.n 583 rfl rfl rfl ?_
  refine zz_E.n 584 rfl rfl rfl ?_
  refine zz_E.n 585 rfl rfl rfl ?_
  refine zz_E.n 586 rfl rfl rfl ?_
  refine zz_E.n 587 rfl rfl rfl ?_
  refine zz_E.n 588 rfl rfl rfl ?_
  refine zz_E.n 589 rfl rfl rfl ?_
  refine zz_E.n 590 rfl rfl rfl ?_
  refine zz_E.cl (M' := zm_17) 593 rfl rfl (by decide) rfl rfl ⟨rfl, Nat.le_of_ble_eq_true rfl⟩ rfl ?_
  refine zz_E.n 1 rfl rfl rfl ?_
  refine zz_E.cl (M' := zm_21) 4 rfl rfl (by decide) rfl rfl ⟨rfl, Nat.le_of_ble_eq_true rfl⟩ rfl ?_
  refine zz_E.n 1 rfl rfl rfl ?_
  refine zz_E.jf 4 rfl (by rfl) (by decide) rfl ?_
  refine zz_E.n 5 rfl rfl rfl ?_
  refine zz_E.n 7 rfl rfl rfl ?_
  refine zz_E.kf 10 rfl (by rfl) (by decide) rfl ?_
  refine zz_E.n 11 rfl rfl rfl ?_
  refine zz_E.n 15 rfl rfl rfl ?_
  refine zz_E.ret rfl rfl rfl ?_
  refine zz_E.jf 7 rfl (by rfl) (by decide) rfl ?_
  refine zz_E.n 8 rfl rfl rfl ?_
  refine zz_E.cl (M' := zm_21) 11 rfl rfl (by decide) rfl rfl ⟨rfl, Nat.le_of_ble_eq_true rfl⟩ rfl ?_
  refine zz_E.n 1 rfl rfl rfl ?_
  refine zz_E.jf 4 rfl (by rfl) (by decide) rfl ?_
  refine zz_E.n 5 rfl rfl rfl ?_
  refine zz_E.n 7 rfl rfl rfl ?_
  refine zz_E.kf 10 rfl (by rfl) (by decide) rfl ?_
  refine zz_E.n 11 rfl rfl rfl ?_
  refine zz_E.n 15 rfl rfl rfl ?_
  refine zz_E.ret rfl rfl rfl ?_
  refine zz_E.jf 14 rfl (by rfl) (by decide) rfl ?_
  refine zz_E.n 15 rfl rfl rfl ?_
  refine zz_E.n 18 rfl rfl rfl ?_
  refine zz_E.n 19 rfl rfl rfl ?_
  refine zz_E.n 20 rfl rfl rfl ?_
  refine zz_E.cl (M' := zm_27) 23 rfl rfl (by decide) rfl rfl ⟨rfl, Nat.le_of_ble_eq_true rfl⟩ rfl ?_
  refine zz_E.n 1 rfl rfl rfl ?_
  refine zz_E.n 4 rfl rfl rfl ?_
  refine zz_E.n 5 rfl rfl rfl ?_
  refine zz_E.n 6 rfl rfl rfl ?_
  refine zz_E.n 7 rfl rfl rfl ?_
  refine zz_E.n 10 rfl rfl rfl ?_
  refine zz_E.n 11 rfl rfl rfl ?_
  refine zz_E.n 12 rfl rfl rfl ?_
  refine zz_E.kf 15 rfl (by rfl) (by decide) rfl ?_
  refine zz_E.n 16 rfl rfl rfl ?_
  refine zz_E.n 20 rfl rfl rfl ?_
  refine zz_E.n 21 rfl rfl rfl ?_
  refine zz_E.n 22 rfl rfl rfl ?_
  refine zz_E.n 24 rfl rfl rfl ?_
  refine zz_E.n 26 rfl rfl rfl ?_
  refine zz_E.n 27 rfl rfl rfl ?_
  refine zz_E.n 30 rfl rfl rfl ?_
  refine zz_E.n 31 rfl rfl rfl ?_
  refine zz_E.n 32 rfl rfl rfl ?_
  refine zz_E.kt 72 rfl (by rfl) (by decide) rfl ?_
  refine zz_E.n 73 rfl rfl rfl ?_
  refine zz_E.ret rfl rfl rfl ?_
  refine zz_E.jf 26 rfl (by rfl) (by decide) rfl ?_
  refine zz_E.n 27 rfl rfl rfl ?_
  refine zz_E.n 31 rfl rfl rfl ?_
  refine zz_E.ret rfl rfl rfl ?_
  refine zz_E.n 594 rfl rfl rfl ?_
  refine zz_E.n 595 rfl rfl rfl ?_
  refine zz_E.n 596 rfl rfl rfl ?_
  refine zz_E.n 597 rfl rfl rfl ?_
  refine zz_E.n 598 rfl rfl rfl ?_
  refine zz_E.n 599 rfl rfl rfl ?_
  refine zz_E.n 600 rfl rfl rfl ?_
  refine zz_E.n 601 rfl rfl rfl ?_
  refine zz_E.n 602 rfl rfl rfl ?_
  refine zz_E.n 603 rfl rfl rfl ?_
  refine zz_E.n 604 rfl rfl rfl ?_
  refine zz_E.cl (M' := zm_82) 607 rfl rfl (by decide) rfl rfl ⟨rfl, Nat.le_of_ble_eq_true rfl⟩ rfl ?_
  refine zz_E.n 1 rfl rfl rfl ?_
  refine zz_E.cl (M' := zm_73) 4 rfl rfl (by decide) rfl rfl ⟨rfl, Nat.le_of_ble_eq_true rfl⟩ rfl ?_
  refine zz_E.n 1 rfl rfl rfl ?_
  refine zz_E.jf 4 rfl (by rfl) (by decide) rfl ?_
  refine zz_E.n 5 rfl rfl rfl ?_
  refine zz_E.n 7 rfl rfl rfl ?_
  refine zz_E.kf 10 rfl (by rfl) (by decide) rfl ?_
  refine zz_E.n 11 rfl rfl rfl ?_
  refine zz_E.n 15 rfl rfl rfl ?_
  refine zz_E.ret rfl rfl rfl ?_
  refine zz_E.jf 7 rfl (by rfl) (by decide) rfl ?_
  refine zz_E.n 8 rfl rfl rfl ?_
  refine zz_E.cl (M' := zm_73) 11 rfl rfl (by decide) rfl rfl ⟨rfl, Nat.le_of_ble_eq_true rfl⟩ rfl ?_
  refine zz_E.n 1 rfl rfl rfl ?_
  refine zz_E.jf 4 rfl (by rfl) (by decide) rfl ?_
  refine zz_E.n 5 rfl rfl rfl ?_
  refine zz_E.n 7 rfl rfl rfl ?_
  refine zz_E.kf 10 rfl (by rfl) (by decide) rfl ?_
  refine zz_E.n 11 rfl rfl rfl ?_
  refine zz_E.n 15 rfl rfl rfl ?_
  refine zz_E.ret rfl rfl rfl ?_
  refine zz_E.jt 16 rfl (by rfl) (by decide) rfl ?_
  refine zz_E.n 19 rfl rfl rfl ?_
  refine zz_E.n 20 rfl rfl rfl ?_
  refine zz_E.n 21 rfl rfl rfl ?_
  refine zz_E.n 22 rfl rfl rfl ?_
  refine zz_E.n 25 rfl rfl rfl ?_
  refine zz_E.n 26 rfl rfl rfl ?_
  refine zz_E.n 27 rfl rfl rfl ?_
  refine zz_E.n 29 rfl rfl rfl ?_
  refine zz_E.n 30 rfl rfl rfl ?_
  refine zz_E.n 33 rfl rfl rfl ?_
  refine zz_E.n 34 rfl rfl rfl ?_
  refine zz_E.n 35 rfl rfl rfl ?_
  refine zz_E.jt 48 rfl (by rfl) (by decide) rfl ?_
  refine zz_E.n 49 rfl rfl rfl ?_
  refine zz_E.n 52 rfl rfl rfl ?_
  refine zz_E.n 53 rfl rfl rfl ?_
  refine zz_E.n 54 rfl rfl rfl ?_
  refine zz_E.n 55 rfl rfl rfl ?_
  refine zz_E.n 58 rfl rfl rfl ?_
  refine zz_E.n 60 rfl rfl rfl ?_
  refine zz_E.n 61 rfl rfl rfl ?_
  refine zz_E.kf 64 rfl (by rfl) (by decide) rfl ?_
  refine zz_E.n 65 rfl rfl rfl ?_
  refine zz_E.n 68 rfl rfl rfl ?_
  refine zz_E.n 69 rfl rfl rfl ?_
  refine zz_E.n 70 rfl rfl rfl ?_
  refine zz_E.jt 93 rfl (by rfl) (by decide) rfl ?_
  refine zz_E.n 94 rfl rfl rfl ?_
  refine zz_E.n 98 rfl rfl rfl ?_
  refine zz_E.ret rfl rfl rfl ?_
  refine zz_E.kt 652 rfl (by rfl) (by decide) rfl ?_
  refine zz_E.n 655 rfl rfl rfl ?_
  refine zz_E.n 18 rfl rfl rfl ?_
  refine zz_E.n 19 rfl rfl rfl ?_
  refine zz_E.n 20 rfl rfl rfl ?_
  refine zz_E.n 21 rfl rfl rfl ?_
  refine zz_E.n 23 rfl rfl rfl ?_
  refine zz_E.n 24 rfl rfl rfl ?_
  refine zz_E.kt 658 rfl (by rfl) (by decide) rfl ?_
  refine zz_E.n 659 rfl rfl rfl ?_
  refine zz_E.ret rfl rfl rfl ?_
  exact ⟨rfl, by decide +kernel, by decide +kernel⟩
set_option maxRecDepth 100000 in
set_option maxHeartbeats 8000000 in
theorem zv_k15_4_6 (xs : Nat → Int32) : zz_E zp_P zt_tf zt_fd (zt_X 6 (fun q => if q = 1 then nI 4 else if q = 2 then nI 6 else xs q)) 1000 zm_law 33 zv_L [.int (nI 15)] zv_h zv_Q := by
  refine zz_E.n 579 rfl rfl rfl ?_
  refine zz_E.n 580 rfl rfl rfl ?_
  refine zz_E.n 581 rfl rfl rfl ?_
  refine zz_E.n 582 rfl rfl rfl ?_
  refine zz_E.n 583 rfl rfl rfl ?_
  refine zz_E.n 584 rfl rfl rfl ?_
  refine zz_E.n 585 rfl rfl rfl ?_
  refine zz_E.n 586 rfl rfl rfl ?_
  refine zz_E.n 587 rfl rfl rfl ?_
  refine zz_E.n 588 rfl rfl rfl ?_
  refine zz_E.n 589 rfl rfl rfl ?_
  refine zz_E.n 590 rfl rfl rfl ?_
  refine zz_E.cl (M' := zm_17) 593 rfl rfl (by decide) rfl rfl ⟨rfl, Nat.le_of_ble_eq_true rfl⟩ rfl ?_
  refine zz_E.n 1 rfl rfl rfl ?_
  refine zz_E.cl (M' := zm_21) 4 rfl rfl (by decide) rfl rfl ⟨rfl, Nat.le_of_ble_eq_true rfl⟩ rfl ?_
  refine zz_E.n 1 rfl rfl rfl ?_
  refine zz_E.jf 4 rfl (by rfl) (by decide) rfl ?_
  refine zz_E.n 5 rfl rfl rfl ?_
  refine zz_E.n 7 rfl rfl rfl ?_
  refine zz_E.kf 10 rfl (by rfl) (by decide) rfl ?_
  refine zz_E.n 11 rfl rfl rfl ?_
  refine zz_E.n 15 rfl rfl rfl ?_
  refine zz_E.ret rfl rfl rfl ?_
  refine zz_E.jf 7 rfl (by rfl) (by decide) rfl ?_
  refine zz_E.n 8 rfl rfl rfl ?_
  refine zz_E.cl (M' := zm_21) 11 rfl rfl (by decide) rfl rfl ⟨rfl, Nat.le_of_ble_eq_true rfl⟩ rfl ?_
  refine zz_E.n 1 rfl rfl rfl ?_
  refine zz_E.jf 4 rfl (by rfl) (by decide) rfl ?_
  refine zz_E.n 5 rfl rfl rfl ?_
  refine zz_E.n 7 rfl rfl rfl ?_
  refine zz_E.kf 10 rfl (by rfl) (by decide) rfl ?_
  refine zz_E.n 11 rfl rfl rfl ?_
  refine zz_E.n 15 rfl rfl rfl ?_
  refine zz_E.ret rfl rfl rfl ?_
  refine zz_E.jf 14 rfl (by rfl) (by decide) rfl ?_
  refine zz_E.n 15 rfl rfl rfl ?_
  refine zz_E.n 18 rfl rfl rfl ?_
  refine zz_E.n 19 rfl rfl rfl ?_
  refine zz_E.n 20 rfl rfl rfl ?_
  refine zz_E.cl (M' := zm_27) 23 rfl rfl (by decide) rfl rfl ⟨rfl, Nat.le_of_ble_eq_true rfl⟩ rfl ?_
  refine zz_E.n 1 rfl rfl rfl ?_
  refine zz_E.n 4 rfl rfl rfl ?_
  refine zz_E.n 5 rfl rfl rfl ?_
  refine zz_E.n 6 rfl rfl rfl ?_
  refine zz_E.n 7 rfl rfl rfl ?_
  refine zz_E.n 10 rfl rfl rfl ?_
  refine zz_E.n 11 rfl rfl rfl ?_
  refine zz_E.n 12 rfl rfl rfl ?_
  refine zz_E.kf 15 rfl (by rfl) (by decide) rfl ?_
  refine zz_E.n 16 rfl rfl rfl ?_
  refine zz_E.n 20 rfl rfl rfl ?_
  refine zz_E.n 21 rfl rfl rfl ?_
  refine zz_E.n 22 rfl rfl rfl ?_
  refine zz_E.n 24 rfl rfl rfl ?_
  refine zz_E.n 26 rfl rfl rfl ?_
  refine zz_E.n 27 rfl rfl rfl ?_
  refine zz_E.n 30 rfl rfl rfl ?_
  refine zz_E.n 31 rfl rfl rfl ?_
  refine zz_E.n 32 rfl rfl rfl ?_
  refine zz_E.kt 72 rfl (by rfl) (by decide) rfl ?_
  refine zz_E.n 73 rfl rfl rfl ?_
  refine zz_E.ret rfl rfl rfl ?_
  refine zz_E.jf 26 rfl (by rfl) (by decide) rfl ?_
  refine zz_E.n 27 rfl rfl rfl ?_
  refine zz_E.n 31 rfl rfl rfl ?_
  refine zz_E.ret rfl rfl rfl ?_
  refine zz_E.n 594 rfl rfl rfl ?_
  refine zz_E.n 595 rfl rfl rfl ?_
  refine zz_E.n 596 rfl rfl rfl ?_
  refine zz_E.n 597 rfl rfl rfl ?_
  refine zz_E.n 598 rfl rfl rfl ?_
  refine zz_E.n 599 rfl rfl rfl ?_
  refine zz_E.n 600 rfl rfl rfl ?_
  refine zz_E.n 601 rfl rfl rfl ?_
  refine zz_E.n 602 rfl rfl rfl ?_
  refine zz_E.n 603 rfl rfl rfl ?_
  refine zz_E.n 604 rfl rfl rfl ?_
  refine zz_E.cl (M' := zm_82) 607 rfl rfl (by decide) rfl rfl ⟨rfl, Nat.le_of_ble_eq_true rfl⟩ rfl ?_
  refine zz_E.n 1 rfl rfl rfl ?_
  refine zz_E.cl (M' := zm_73) 4 rfl rfl (by decide) rfl rfl ⟨rfl, Nat.le_of_ble_eq_true rfl⟩ rfl ?_
  refine zz_E.n 1 rfl rfl rfl ?_
  refine zz_E.jf 4 rfl (by rfl) (by decide) rfl ?_
  refine zz_E.n 5 rfl rfl rfl ?_
  refine zz_E.n 7 rfl rfl rfl ?_
  refine zz_E.kf 10 rfl (by rfl) (by decide) rfl ?_
  refine zz_E.n 11 rfl rfl rfl ?_
  refine zz_E.n 15 rfl rfl rfl ?_
  refine zz_E.ret rfl rfl rfl ?_
  refine zz_E.jf 7 rfl (by rfl) (by decide) rfl ?_
  refine zz_E.n 8 rfl rfl rfl ?_
  refine zz_E.cl (M' := zm_73) 11 rfl rfl (by decide) rfl rfl ⟨rfl, Nat.le_of_ble_eq_true rfl⟩ rfl ?_
  refine zz_E.n 1 rfl rfl rfl ?_
  refine zz_E.jf 4 rfl (by rfl) (by decide) rfl ?_
  refine zz_E.n 5 rfl rfl rfl ?_
  refine zz_E.n 7 rfl rfl rfl ?_
  refine zz_E.kf 10 rfl (by rfl) (by decide) rfl ?_
  refine zz_E.n 11 rfl rfl rfl ?_
  refine zz_E.n 15 rfl rfl rfl ?_
  refine zz_E.ret rfl rfl rfl ?_
  refine zz_E.jt 16 rfl (by rfl) (by decide) rfl ?_
  refine zz_E.n 19 rfl rfl rfl ?_
  refine zz_E.n 20 rfl rfl rfl ?_
  refine zz_E.n 21 rfl rfl rfl ?_
  refine zz_E.n 22 rfl rfl rfl ?_
  refine zz_E.n 25 rfl rfl rfl ?_
  refine zz_E.n 26 rfl rfl rfl ?_
  refine zz_E.n 27 rfl rfl rfl ?_
  refine zz_E.n 29 rfl rfl rfl ?_
  refine zz_E.n 30 rfl rfl rfl ?_
  refine zz_E.n 33 rfl rfl rfl ?_
  refine zz_E.n 34 rfl rfl rfl ?_
  refine zz_E.n 35 rfl rfl rfl ?_
  refine zz_E.jt 48 rfl (by rfl) (by decide) rfl ?_
  refine zz_E.n 49 rfl rfl rfl ?_
  refine zz_E.n 52 rfl rfl rfl ?_
  refine zz_E.n 53 rfl rfl rfl ?_
  refine zz_E.n 54 rfl rfl rfl ?_
  refine zz_E.n 55 rfl rfl rfl ?_
  refine zz_E.n 58 rfl rfl rfl ?_
  refine zz_E.n 60 rfl rfl rfl ?_
  refine zz_E.n 61 rfl rfl rfl ?_
  refine zz_E.kf 64 rfl (by rfl) (by decide) rfl ?_
  refine zz_E.n 65 rfl rfl rfl ?_
  refine zz_E.n 68 rfl rfl rfl ?_
  refine zz_E.n 69 rfl rfl rfl ?_
  refine zz_E.n 70 rfl rfl rfl ?_
  refine zz_E.jt 93 rfl (by rfl) (by decide) rfl ?_
  refine zz_E.n 94 rfl rfl rfl ?_
  refine zz_E.n 98 rfl rfl rfl ?_
  refine zz_E.ret rfl rfl rfl ?_
  refine zz_E.kt 652 rfl (by rfl) (by decide) rfl ?_
  refine zz_E.n 655 rfl rfl rfl ?_
  refine zz_E.n 18 rfl rfl rfl ?_
  refine zz_E.n 19 rfl rfl rfl ?_
  refine zz_E.n 20 rfl rfl rfl ?_
  refine zz_E.n 21 rfl rfl rfl ?_
  refine zz_E.n 23 rfl rfl rfl ?_
  refine zz_E.n 24 rfl rfl rfl ?_
  refine zz_E.kt 658 rfl (by rfl) (by decide) rfl ?_
  refine zz_E.n 659 rfl rfl rfl ?_
  refine zz_E.ret rfl rfl rfl ?_
  exact ⟨rfl, by decide +kernel, by decide +kernel⟩
set_option maxRecDepth 100000 in
set_option maxHeartbeats 8000000 in
theorem zv_k15_4_7 (xs : Nat → Int32) : zz_E zp_P zt_tf zt_fd (zt_X 6 (fun q => if q = 1 then nI 4 else if q = 2 then nI 7 else xs q)) 1000 zm_law 33 zv_L [.int (nI 15)] zv_h zv_Q := by
  refine zz_E.n 579 rfl rfl rfl ?_
  refine zz_E.n 580 rfl rfl rfl ?_
  refine zz_E.n 581 rfl rfl rfl ?_
  refine zz_E.n 582 rfl rfl rfl ?_
  refine zz_E.n 583 rfl rfl rfl ?_
  refine zz_E.n 584 rfl rfl rfl ?_
  refine zz_E.n 585 rfl rfl rfl ?_
  refine zz_E.n 586 rfl rfl rfl ?_
  refine zz_E.n 587 rfl rfl rfl ?_
  refine zz_E.n 588 rfl rfl rfl ?_
  refine zz_E.n 589 rfl rfl rfl ?_
  refine zz_E.n 590 rfl rfl rfl ?_
  refine zz_E.cl (M' := zm_17) 593 rfl rfl (by decide) rfl rfl ⟨rfl, Nat.le_of_ble_eq_true rfl⟩ rfl ?_
  refine zz_E.n 1 rfl rfl rfl ?_
  refine zz_E.cl (M' := zm_21) 4 rfl rfl (by decide) rfl rfl ⟨rfl, Nat.le_of_ble_eq_true rfl⟩ rfl ?_
  refine zz_E.n 1 rfl rfl rfl ?_
  refine zz_E.jf 4 rfl (by rfl) (by decide) rfl ?_
  refine zz_E.n 5 rfl rfl rfl ?_
  refine zz_E.n 7 rfl rfl rfl ?_
  refine zz_E.kf 10 rfl (by rfl) (by decide) rfl ?_
  refine zz_E.n 11 rfl rfl rfl ?_
  refine zz_E.n 15 rfl rfl rfl ?_
  refine zz_E.ret rfl rfl rfl ?_
  refine zz_E.jf 7 rfl (by rfl) (by decide) rfl ?_
  refine zz_E.n 8 rfl rfl rfl ?_
  refine zz_E.cl (M' := zm_21) 11 rfl rfl (by decide) rfl rfl ⟨rfl, Nat.le_of_ble_eq_true rfl⟩ rfl ?_
  refine zz_E.n 1 rfl rfl rfl ?_
  refine zz_E.jf 4 rfl (by rfl) (by decide) rfl ?_
  refine zz_E.n 5 rfl rfl rfl ?_
  refine zz_E.n 7 rfl rfl rfl ?_
  refine zz_E.kf 10 rfl (by rfl) (by decide) rfl ?_
  refine zz_E.n 11 rfl rfl rfl ?_
  refine zz_E.n 15 rfl rfl rfl ?_
  refine zz_E.ret rfl rfl rfl ?_
  refine zz_E.jf 14 rfl (by rfl) (by decide) rfl ?_
  refine zz_E.n 15 rfl rfl rfl ?_
  refine zz_E.n 18 rfl rfl rfl ?_
  refine zz_E.n 19 rfl rfl rfl ?_
  refine zz_E.n 20 rfl rfl rfl ?_
  refine zz_E.cl (M' := zm_27) 23 rfl rfl (by decide) rfl rfl ⟨rfl, Nat.le_of_ble_eq_true rfl⟩ rfl ?_
  refine zz_E.n 1 rfl rfl rfl ?_
  refine zz_E.n 4 rfl rfl rfl ?_
  refine zz_E.n 5 rfl rfl rfl ?_
  refine zz_E.n 6 rfl rfl rfl ?_
  refine zz_E.n 7 rfl rfl rfl ?_
  refine zz_E.n 10 rfl rfl rfl ?_
  refine zz_E.n 11 rfl rfl rfl ?_
  refine zz_E.n 12 rfl rfl rfl ?_
  refine zz_E.kf 15 rfl (by rfl) (by decide) rfl ?_
  refine zz_E.n 16 rfl rfl rfl ?_
  refine zz_E.n 20 rfl rfl rfl ?_
  refine zz_E.n 21 rfl rfl rfl ?_
  refine zz_E.n 22 rfl rfl rfl ?_
  refine zz_E.n 24 rfl rfl rfl ?_
  refine zz_E.n 26 rfl rfl rfl ?_
  refine zz_E.n 27 rfl rfl rfl ?_
  refine zz_E.n 30 rfl rfl rfl ?_
  refine zz_E.n 31 rfl rfl rfl ?_
  refine zz_E.n 32 rfl rfl rfl ?_
  refine zz_E.kt 72 rfl (by rfl) (by decide) rfl ?_
  refine zz_E.n 73 rfl rfl rfl ?_
  refine zz_E.ret rfl rfl rfl ?_
  refine zz_E.jf 26 rfl (by rfl) (by decide) rfl ?_
  refine zz_E.n 27 rfl rfl rfl ?_
  refine zz_E.n 31 rfl rfl rfl ?_
  refine zz_E.ret rfl rfl rfl ?_
  refine zz_E.n 594 rfl rfl rfl ?_
  refine zz_E.n 595 rfl rfl rfl ?_
  refine zz_E.n 596 rfl rfl rfl ?_
  refine zz_E.n 597 rfl rfl rfl ?_
  refine zz_E.n 598 rfl rfl rfl ?_
  refine zz_E.n 599 rfl rfl rfl ?_
  refine zz_E.n 600 rfl rfl rfl ?_
  refine zz_E.n 601 rfl rfl rfl ?_
  refine zz_E.n 602 rfl rfl rfl ?_
  refine zz_E.n 603 rfl rfl rfl ?_
  refine zz_E.n 604 rfl rfl rfl ?_
  refine zz_E.cl (M' := zm_82) 607 rfl rfl (by decide) rfl rfl ⟨rfl, Nat.le_of_ble_eq_true rfl⟩ rfl ?_
  refine zz_E.n 1 rfl rfl rfl ?_
  refine zz_E.cl (M' := zm_73) 4 rfl rfl (by decide) rfl rfl ⟨rfl, Nat.le_of_ble_eq_true rfl⟩ rfl ?_
  refine zz_E.n 1 rfl rfl rfl ?_
  refine zz_E.jf 4 rfl (by rfl) (by decide) rfl ?_
  refine zz_E.n 5 rfl rfl rfl ?_
  refine zz_E.n 7 rfl rfl rfl ?_
  refine zz_E.kf 10 rfl (by rfl) (by decide) rfl ?_
  refine zz_E.n 11 rfl rfl rfl ?_
  refine zz_E.n 15 rfl rfl rfl ?_
  refine zz_E.ret rfl rfl rfl ?_
  refine zz_E.jf 7 rfl (by rfl) (by decide) rfl ?_
  refine zz_E.n 8 rfl rfl rfl ?_
  refine zz_E.cl (M' := zm_73) 11 rfl rfl (by decide) rfl rfl ⟨rfl, Nat.le_of_ble_eq_true rfl⟩ rfl ?_
  refine zz_E.n 1 rfl rfl rfl ?_
  refine zz_E.jf 4 rfl (by rfl) (by decide) rfl ?_
  refine zz_E.n 5 rfl rfl rfl ?_
  refine zz_E.n 7 rfl rfl rfl ?_
  refine zz_E.kf 10 rfl (by rfl) (by decide) rfl ?_
  refine zz_E.n 11 rfl rfl rfl ?_
  refine zz_E.n 15 rfl rfl rfl ?_
  refine zz_E.ret rfl rfl rfl ?_
  refine zz_E.jt 16 rfl (by rfl) (by decide) rfl ?_
  refine zz_E.n 19 rfl rfl rfl ?_
  refine zz_E.n 20 rfl rfl rfl ?_
  refine zz_E.n 21 rfl rfl rfl ?_
  refine zz_E.n 22 rfl rfl rfl ?_
  refine zz_E.n 25 rfl rfl rfl ?_
  refine zz_E.n 26 rfl rfl rfl ?_
  refine zz_E.n 27 rfl rfl rfl ?_
  refine zz_E.n 29 rfl rfl rfl ?_
  refine zz_E.n 30 rfl rfl rfl ?_
  refine zz_E.n 33 rfl rfl rfl ?_
  refine zz_E.n 34 rfl rfl rfl ?_
  refine zz_E.n 35 rfl rfl rfl ?_
  refine zz_E.jt 48 rfl (by rfl) (by decide) rfl ?_
  refine zz_E.n 49 rfl rfl rfl ?_
  refine zz_E.n 52 rfl rfl rfl ?_
  refine zz_E.n 53 rfl rfl rfl ?_
  refine zz_E.n 54 rfl rfl rfl ?_
  refine zz_E.n 55 rfl rfl rfl ?_
  refine zz_E.n 58 rfl rfl rfl ?_
  refine zz_E.n 60 rfl rfl rfl ?_
  refine zz_E.n 61 rfl rfl rfl ?_
  refine zz_E.kf 64 rfl (by rfl) (by decide) rfl ?_
  refine zz_E.n 65 rfl rfl rfl ?_
  refine zz_E.n 68 rfl rfl rfl ?_
  refine zz_E.n 69 rfl rfl rfl ?_
  refine zz_E.n 70 rfl rfl rfl ?_
  refine zz_E.jt 93 rfl (by rfl) (by decide) rfl ?_
  refine zz_E.n 94 rfl rfl rfl ?_
  refine zz_E.n 98 rfl rfl rfl ?_
  refine zz_E.ret rfl rfl rfl ?_
  refine zz_E.kt 652 rfl (by rfl) (by decide) rfl ?_
  refine zz_E.n 655 rfl rfl rfl ?_
  refine zz_E.n 18 rfl rfl rfl ?_
  refine zz_E.n 19 rfl rfl rfl ?_
  refine zz_E.n 20 rfl rfl rfl ?_
  refine zz_E.n 21 rfl rfl rfl ?_
  refine zz_E.n 23 rfl rfl rfl ?_
  refine zz_E.n 24 rfl rfl rfl ?_
  refine zz_E.kt 658 rfl (by rfl) (by decide) rfl ?_
  refine zz_E.n 659 rfl rfl rfl ?_
  refine zz_E.ret rfl rfl rfl ?_
  exact ⟨rfl, by decide +kernel, by decide +kernel⟩
set_option maxRecDepth 100000 in
set_option maxHeartbeats 8000000 in
theorem zv_k15_5_0 (xs : Nat → Int32) : zz_E zp_P zt_tf zt_fd (zt_X 6 (fun q => if q = 1 then nI 5 else if q = 2 then nI 0 else xs q)) 1000 zm_law 33 zv_L [.int (nI 15)] zv_h zv_Q := by
  refine zz_E.n 579 rfl rfl rfl ?_
  refine zz_E.n 580 rfl rfl rfl ?_
  refine zz_E.n 581 rfl rfl rfl ?_
  refine zz_E.n 582 rfl rfl rfl ?_
  refine zz_E.n 583 rfl rfl rfl ?_
  refine zz_E.n 584 rfl rfl rfl ?_
  refine zz_E.n 585 rfl rfl rfl ?_
  refine zz_E.n 586 rfl rfl rfl ?_
  refine zz_E.n 587 rfl rfl rfl ?_
  refine zz_E.n 588 rfl rfl rfl ?_
  refine zz_E.n 589 rfl rfl rfl ?_
  refine zz_E.n 590 rfl rfl rfl ?_
  refine zz_E.cl (M' := zm_17) 593 rfl rfl (by decide) rfl rfl ⟨rfl, Nat.le_of_ble_eq_true rfl⟩ rfl ?_
  refine zz_E.n 1 rfl rfl rfl ?_
  refine zz_E.cl (M' := zm_21) 4 rfl rfl (by decide) rfl rfl ⟨rfl, Nat.le_of_ble_eq_true rfl⟩ rfl ?_
  refine zz_E.n 1 rfl rfl rfl ?_
  refine zz_E.jf 4 rfl (by rfl) (by decide) rfl ?_
  refine zz_E.n 5 rfl rfl rfl ?_
  refine zz_E.n 7 rfl rfl rfl ?_
  refine zz_E.kf 10 rfl (by rfl) (by decide) rfl ?_
  refine zz_E.n 11 rfl rfl rfl ?_
  refine zz_E.n 15 rfl rfl rfl ?_
  refine zz_E.ret rfl rfl rfl ?_
  refine zz_E.jf 7 rfl (by rfl) (by decide) rfl ?_
  refine zz_E.n 8 rfl rfl rfl ?_
  refine zz_E.cl (M' := zm_21) 11 rfl rfl (by decide) rfl rfl ⟨rfl, Nat.le_of_ble_eq_true rfl⟩ rfl ?_
  refine zz_E.n 1 rfl rfl rfl ?_
  refine zz_E.jf 4 rfl (by rfl) (by decide) rfl ?_
  refine zz_E.n 5 rfl rfl rfl ?_
  refine zz_E.n 7 rfl rfl rfl ?_
  refine zz_E.kf 10 rfl (by rfl) (by decide) rfl ?_
  refine zz_E.n 11 rfl rfl rfl ?_
  refine zz_E.n 15 rfl rfl rfl ?_
  refine zz_E.ret rfl rfl rfl ?_
  refine zz_E.jf 14 rfl (by rfl) (by decide) rfl ?_
  refine zz_E.n 15 rfl rfl rfl ?_
  refine zz_E.n 18 rfl rfl rfl ?_
  refine zz_E.n 19 rfl rfl rfl ?_
  refine zz_E.n 20 rfl rfl rfl ?_
  refine zz_E.cl (M' := zm_27) 23 rfl rfl (by decide) rfl rfl ⟨rfl, Nat.le_of_ble_eq_true rfl⟩ rfl ?_
  refine zz_E.n 1 rfl rfl rfl ?_
  refine zz_E.n 4 rfl rfl rfl ?_
  refine zz_E.n 5 rfl rfl rfl ?_
  refine zz_E.n 6 rfl rfl rfl ?_
  refine zz_E.n 7 rfl rfl rfl ?_
  refine zz_E.n 10 rfl rfl rfl ?_
  refine zz_E.n 11 rfl rfl rfl ?_
  refine zz_E.n 12 rfl rfl rfl ?_
  refine zz_E.kf 15 rfl (by rfl) (by decide) rfl ?_
  refine zz_E.n 16 rfl rfl rfl ?_
  refine zz_E.n 20 rfl rfl rfl ?_
  refine zz_E.n 21 rfl rfl rfl ?_
  refine zz_E.n 22 rfl rfl rfl ?_
  refine zz_E.n 24 rfl rfl rfl ?_
  refine zz_E.n 26 rfl rfl rfl ?_
  refine zz_E.n 27 rfl rfl rfl ?_
  refine zz_E.n 30 rfl rfl rfl ?_
  refine zz_E.n 31 rfl rfl rfl ?_
  refine zz_E.n 32 rfl rfl rfl ?_
  refine zz_E.kt 72 rfl (by rfl) (by decide) rfl ?_
  refine zz_E.n 73 rfl rfl rfl ?_
  refine zz_E.ret rfl rfl rfl ?_
  refine zz_E.jf 26 rfl (by rfl) (by decide) rfl ?_
  refine zz_E.n 27 rfl rfl rfl ?_
  refine zz_E.n 31 rfl rfl rfl ?_
  refine zz_E.ret rfl rfl rfl ?_
  refine zz_E.n 594 rfl rfl rfl ?_
  refine zz_E.n 595 rfl rfl rfl ?_
  refine zz_E.n 596 rfl rfl rfl ?_
  refine zz_E.n 597 rfl rfl rfl ?_
  refine zz_E.n 598 rfl rfl rfl ?_
  refine zz_E.n 599 rfl rfl rfl ?_
  refine zz_E.n 600 rfl rfl rfl ?_
  refine zz_E.n 601 rfl rfl rfl ?_
  refine zz_E.n 602 rfl rfl rfl ?_
  refine zz_E.n 603 rfl rfl rfl ?_
  refine zz_E.n 604 rfl rfl rfl ?_
  refine zz_E.cl (M' := zm_82) 607 rfl rfl (by decide) rfl rfl ⟨rfl, Nat.le_of_ble_eq_true rfl⟩ rfl ?_
  refine zz_E.n 1 rfl rfl rfl ?_
  refine zz_E.cl (M' := zm_73) 4 rfl rfl (by decide) rfl rfl ⟨rfl, Nat.le_of_ble_eq_true rfl⟩ rfl ?_
  refine zz_E.n 1 rfl rfl rfl ?_
  refine zz_E.jf 4 rfl (by rfl) (by decide) rfl ?_
  refine zz_E.n 5 rfl rfl rfl ?_
  refine zz_E.n 7 rfl rfl rfl ?_
  refine zz_E.kf 10 rfl (by rfl) (by decide) rfl ?_
  refine zz_E.n 11 rfl rfl rfl ?_
  refine zz_E.n 15 rfl rfl rfl ?_
  refine zz_E.ret rfl rfl rfl ?_
  refine zz_E.jf 7 rfl (by rfl) (by decide) rfl ?_
  refine zz_E.n 8 rfl rfl rfl ?_
  refine zz_E.cl (M' := zm_73) 11 rfl rfl (by decide) rfl rfl ⟨rfl, Nat.le_of_ble_eq_true rfl⟩ rfl ?_
  refine zz_E.n 1 rfl rfl rfl ?_
  refine zz_E.jf 4 rfl (by rfl) (by decide) rfl ?_
  refine zz_E.n 5 rfl rfl rfl ?_
  refine zz_E.n 7 rfl rfl rfl ?_
  refine zz_E.kf 10 rfl (by rfl) (by decide) rfl ?_
  refine zz_E.n 11 rfl rfl rfl ?_
  refine zz_E.n 15 rfl rfl rfl ?_
  refine zz_E.ret rfl rfl rfl ?_
  refine zz_E.jt 16 rfl (by rfl) (by decide) rfl ?_
  refine zz_E.n 19 rfl rfl rfl ?_
  refine zz_E.n 20 rfl rfl rfl ?_
  refine zz_E.n 21 rfl rfl rfl ?_
  refine zz_E.n 22 rfl rfl rfl ?_
  refine zz_E.n 25 rfl rfl rfl ?_
  refine zz_E.n 26 rfl rfl rfl ?_
  refine zz_E.n 27 rfl rfl rfl ?_
  refine zz_E.n 29 rfl rfl rfl ?_
  refine zz_E.n 30 rfl rfl rfl ?_
  refine zz_E.n 33 rfl rfl rfl ?_
  refine zz_E.n 34 rfl rfl rfl ?_
  refine zz_E.n 35 rfl rfl rfl ?_
  refine zz_E.jt 48 rfl (by rfl) (by decide) rfl ?_
  refine zz_E.n 49 rfl rfl rfl ?_
  refine zz_E.n 52 rfl rfl rfl ?_
  refine zz_E.n 53 rfl rfl rfl ?_
  refine zz_E.n 54 rfl rfl rfl ?_
  refine zz_E.n 55 rfl rfl rfl ?_
  refine zz_E.n 58 rfl rfl rfl ?_
  refine zz_E.n 60 rfl rfl rfl ?_
  refine zz_E.n 61 rfl rfl rfl ?_
  refine zz_E.kf 64 rfl (by rfl) (by decide) rfl ?_
  refine zz_E.n 65 rfl rfl rfl ?_
  refine zz_E.n 68 rfl rfl rfl ?_
  refine zz_E.n 69 rfl rfl rfl ?_
  refine zz_E.n 70 rfl rfl rfl ?_
  refine zz_E.jt 93 rfl (by rfl) (by decide) rfl ?_
  refine zz_E.n 94 rfl rfl rfl ?_
  refine zz_E.n 98 rfl rfl rfl ?_
  refine zz_E.ret rfl rfl rfl ?_
  refine zz_E.kt 652 rfl (by rfl) (by decide) rfl ?_
  refine zz_E.n 655 rfl rfl rfl ?_
  refine zz_E.n 18 rfl rfl rfl ?_
  refine zz_E.n 19 rfl rfl rfl ?_
  refine zz_E.n 20 rfl rfl rfl ?_
  refine zz_E.n 21 rfl rfl rfl ?_
  refine zz_E.n 23 rfl rfl rfl ?_
  refine zz_E.n 24 rfl rfl rfl ?_
  refine zz_E.kt 658 rfl (by rfl) (by decide) rfl ?_
  refine zz_E.n 659 rfl rfl rfl ?_
  refine zz_E.ret rfl rfl rfl ?_
  exact ⟨rfl, by decide +kernel, by decide +kernel⟩
set_option maxRecDepth 100000 in
set_option maxHeartbeats 8000000 in
theorem zv_k15_5_1 (xs : Nat → Int32) : zz_E zp_P zt_tf zt_fd (zt_X 6 (fun q => if q = 1 then nI 5 else if q = 2 then nI 1 else xs q)) 1000 zm_law 33 zv_L [.int (nI 15)] zv_h zv_Q := by
  refine zz_E.n 579 rfl rfl rfl ?_
  refine zz_E.n 580 rfl rfl rfl ?_
  refine zz_E.n 581 rfl rfl rfl ?_
  refine zz_E.n 582 rfl rfl rfl ?_
  refine zz_E.n 583 rfl rfl rfl ?_
  refine zz_E.n 584 rfl rfl rfl ?_
  refine zz_E.n 585 rfl rfl rfl ?_
  refine zz_E.n 586 rfl rfl rfl ?_
  refine zz_E.n 587 rfl rfl rfl ?_
  refine zz_E.n 588 rfl rfl rfl ?_
  refine zz_E.n 589 rfl rfl rfl ?_
  refine zz_E.n 590 rfl rfl rfl ?_
  refine zz_E.cl (M' := zm_17) 593 rfl rfl (by decide) rfl rfl ⟨rfl, Nat.le_of_ble_eq_true rfl⟩ rfl ?_
  refine zz_E.n 1 rfl rfl rfl ?_
  refine zz_E.cl (M' := zm_21) 4 rfl rfl (by decide) rfl rfl ⟨rfl, Nat.le_of_ble_eq_true rfl⟩ rfl ?_
  refine zz_E.n 1 rfl rfl rfl ?_
  refine zz_E.jf 4 rfl (by rfl) (by decide) rfl ?_
  refine zz_E.n 5 rfl rfl rfl ?_
  refine zz_E.n 7 rfl rfl rfl ?_
  refine zz_E.kf 10 rfl (by rfl) (by decide) rfl ?_
  refine zz_E.n 11 rfl rfl rfl ?_
  refine zz_E.n 15 rfl rfl rfl ?_
  refine zz_E.ret rfl rfl rfl ?_
  refine zz_E.jf 7 rfl (by rfl) (by decide) rfl ?_
  refine zz_E.n 8 rfl rfl rfl ?_
  refine zz_E.cl (M' := zm_21) 11 rfl rfl (by decide) rfl rfl ⟨rfl, Nat.le_of_ble_eq_true rfl⟩ rfl ?_
  refine zz_E.n 1 rfl rfl rfl ?_
  refine zz_E.jf 4 rfl (by rfl) (by decide) rfl ?_
  refine zz_E.n 5 rfl rfl rfl ?_
  refine zz_E.n 7 rfl rfl rfl ?_
  refine zz_E.kf 10 rfl (by rfl) (by decide) rfl ?_
  refine zz_E.n 11 rfl rfl rfl ?_
  refine zz_E.n 15 rfl rfl rfl ?_
  refine zz_E.ret rfl rfl rfl ?_
  refine zz_E.jf 14 rfl (by rfl) (by decide) rfl ?_
  refine zz_E.n 15 rfl rfl rfl ?_
  refine zz_E.n 18 rfl rfl rfl ?_
  refine zz_E.n 19 rfl rfl rfl ?_
  refine zz_E.n 20 rfl rfl rfl ?_
  refine zz_E.cl (M' := zm_27) 23 rfl rfl (by decide) rfl rfl ⟨rfl, Nat.le_of_ble_eq_true rfl⟩ rfl ?_
  refine zz_E.n 1 rfl rfl rfl ?_
  refine zz_E.n 4 rfl rfl rfl ?_
  refine zz_E.n 5 rfl rfl rfl ?_
  refine zz_E.n 6 rfl rfl rfl ?_
  refine zz_E.n 7 rfl rfl rfl ?_
  refine zz_E.n 10 rfl rfl rfl ?_
  refine zz_E.n 11 rfl rfl rfl ?_
  refine zz_E.n 12 rfl rfl rfl ?_
  refine zz_E.kf 15 rfl (by rfl) (by decide) rfl ?_
  refine zz_E.n 16 rfl rfl rfl ?_
  refine zz_E.n 20 rfl rfl rfl ?_
  refine zz_E.n 21 rfl rfl rfl ?_
  refine zz_E.n 22 rfl rfl rfl ?_
  refine zz_E.n 24 rfl rfl rfl ?_
  refine zz_E.n 26 rfl rfl rfl ?_
  refine zz_E.n 27 rfl rfl rfl ?_
  refine zz_E.n 30 rfl rfl rfl ?_
  refine zz_E.n 31 rfl rfl rfl ?_
  refine zz_E.n 32 rfl rfl rfl ?_
  refine zz_E.kt 72 rfl (by rfl) (by decide) rfl ?_
  refine zz_E.n 73 rfl rfl rfl ?_
  refine zz_E.ret rfl rfl rfl ?_
  refine zz_E.jf 26 rfl (by rfl) (by decide) rfl ?_
  refine zz_E.n 27 rfl rfl rfl ?_
  refine zz_E.n 31 rfl rfl rfl ?_
  refine zz_E.ret rfl rfl rfl ?_
  refine zz_E.n 594 rfl rfl rfl ?_
  refine zz_E.n 595 rfl rfl rfl ?_
  refine zz_E.n 596 rfl rfl rfl ?_
  refine zz_E.n 597 rfl rfl rfl ?_
  refine zz_E.n 598 rfl rfl rfl ?_
  refine zz_E.n 599 rfl rfl rfl ?_
  refine zz_E.n 600 rfl rfl rfl ?_
  refine zz_E.n 601 rfl rfl rfl ?_
  refine zz_E.n 602 rfl rfl rfl ?_
  refine zz_E.n 603 rfl rfl rfl ?_
  refine zz_E.n 604 rfl rfl rfl ?_
  refine zz_E.cl (M' := zm_82) 607 rfl rfl (by decide) rfl rfl ⟨rfl, Nat.le_of_ble_eq_true rfl⟩ rfl ?_
  refine zz_E.n 1 rfl rfl rfl ?_
  refine zz_E.cl (M' := zm_73) 4 rfl rfl (by decide) rfl rfl ⟨rfl, Nat.le_of_ble_eq_true rfl⟩ rfl ?_
  refine zz_E.n 1 rfl rfl rfl ?_
  refine zz_E.jf 4 rfl (by rfl) (by decide) rfl ?_
  refine zz_E.n 5 rfl rfl rfl ?_
  refine zz_E.n 7 rfl rfl rfl ?_
  refine zz_E.kf 10 rfl (by rfl) (by decide) rfl ?_
  refine zz_E.n 11 rfl rfl rfl ?_
  refine zz_E.n 15 rfl rfl rfl ?_
  refine zz_E.ret rfl rfl rfl ?_
  refine zz_E.jf 7 rfl (by rfl) (by decide) rfl ?_
  refine zz_E.n 8 rfl rfl rfl ?_
  refine zz_E.cl (M' := zm_73) 11 rfl rfl (by decide) rfl rfl ⟨rfl, Nat.le_of_ble_eq_true rfl⟩ rfl ?_
  refine zz_E.n 1 rfl rfl rfl ?_
  refine zz_E.jf 4 rfl (by rfl) (by decide) rfl ?_
  refine zz_E.n 5 rfl rfl rfl ?_
  refine zz_E.n 7 rfl rfl rfl ?_
  refine zz_E.kf 10 rfl (by rfl) (by decide) rfl ?_
  refine zz_E.n 11 rfl rfl rfl ?_
  refine zz_E.n 15 rfl rfl rfl ?_
  refine zz_E.ret rfl rfl rfl ?_
  refine zz_E.jt 16 rfl (by rfl) (by decide) rfl ?_
  refine zz_E.n 19 rfl rfl rfl ?_
  refine zz_E.n 20 rfl rfl rfl ?_
  refine zz_E.n 21 rfl rfl rfl ?_
  refine zz_E.n 22 rfl rfl rfl ?_
  refine zz_E.n 25 rfl rfl rfl ?_
  refine zz_E.n 26 rfl rfl rfl ?_
  refine zz_E.n 27 rfl rfl rfl ?_
  refine zz_E.n 29 rfl rfl rfl ?_
  refine zz_E.n 30 rfl rfl rfl ?_
  refine zz_E.n 33 rfl rfl rfl ?_
  refine zz_E.n 34 rfl rfl rfl ?_
  refine zz_E.n 35 rfl rfl rfl ?_
  refine zz_E.jt 48 rfl (by rfl) (by decide) rfl ?_
  refine zz_E.n 49 rfl rfl rfl ?_
  refine zz_E.n 52 rfl rfl rfl ?_
  refine zz_E.n 53 rfl rfl rfl ?_
  refine zz_E.n 54 rfl rfl rfl ?_
  refine zz_E.n 55 rfl rfl rfl ?_
  refine zz_E.n 58 rfl rfl rfl ?_
  refine zz_E.n 60 rfl rfl rfl ?_
  refine zz_E.n 61 rfl rfl rfl ?_
  refine zz_E.kf 64 rfl (by rfl) (by decide) rfl ?_
  refine zz_E.n 65 rfl rfl rfl ?_
  refine zz_E.n 68 rfl rfl rfl ?_
  refine zz_E.n 69 rfl rfl rfl ?_
  refine zz_E.n 70 rfl rfl rfl ?_
  refine zz_E.jt 93 rfl (by rfl) (by decide) rfl ?_
  refine zz_E.n 94 rfl rfl rfl ?_
  refine zz_E.n 98 rfl rfl rfl ?_
  refine zz_E.ret rfl rfl rfl ?_
  refine zz_E.kt 652 rfl (by rfl) (by decide) rfl ?_
  refine zz_E.n 655 rfl rfl rfl ?_
  refine zz_E.n 18 rfl rfl rfl ?_
  refine zz_E.n 19 rfl rfl rfl ?_
  refine zz_E.n 20 rfl rfl rfl ?_
  refine zz_E.n 21 rfl rfl rfl ?_
  refine zz_E.n 23 rfl rfl rfl ?_
  refine zz_E.n 24 rfl rfl rfl ?_
  refine zz_E.kt 658 rfl (by rfl) (by decide) rfl ?_
  refine zz_E.n 659 rfl rfl rfl ?_
  refine zz_E.ret rfl rfl rfl ?_
  exact ⟨rfl, by decide +kernel, by decide +kernel⟩
set_option maxRecDepth 100000 in
set_option maxHeartbeats 8000000 in
theorem zv_k15_5_2 (xs : Nat → Int32) : zz_E zp_P zt_tf zt_fd (zt_X 6 (fun q => if q = 1 then nI 5 else if q = 2 then nI 2 else xs q)) 1000 zm_law 33 zv_L [.int (nI 15)] zv_h zv_Q := by
  refine zz_E.n 579 rfl rfl rfl ?_
  refine zz_E.n 580 rfl rfl rfl ?_
  refine zz_E.n 581 rfl rfl rfl ?_
  refine zz_E.n 582 rfl rfl rfl ?_
  refine zz_E.n 583 rfl rfl rfl ?_
  refine zz_E.n 584 rfl rfl rfl ?_
  refine zz_E.n 585 rfl rfl rfl ?_
  refine zz_E.n 586 rfl rfl rfl ?_
  refine zz_E.n 587 rfl rfl rfl ?_
  refine zz_E.n 588 rfl rfl rfl ?_
  refine zz_E.n 589 rfl rfl rfl ?_
  refine zz_E.n 590 rfl rfl rfl ?_
  refine zz_E.cl (M' := zm_17) 593 rfl rfl (by decide) rfl rfl ⟨rfl, Nat.le_of_ble_eq_true rfl⟩ rfl ?_
  refine zz_E.n 1 rfl rfl rfl ?_
  refine zz_E.cl (M' := zm_21) 4 rfl rfl (by decide) rfl rfl ⟨rfl, Nat.le_of_ble_eq_true rfl⟩ rfl ?_
  refine zz_E.n 1 rfl rfl rfl ?_
  refine zz_E.jf 4 rfl (by rfl) (by decide) rfl ?_
  refine zz_E.n 5 rfl rfl rfl ?_
  refine zz_E.n 7 rfl rfl rfl ?_
  refine zz_E.kf 10 rfl (by rfl) (by decide) rfl ?_
  refine zz_E.n 11 rfl rfl rfl ?_
  refine zz_E.n 15 rfl rfl rfl ?_
  refine zz_E.ret rfl rfl rfl ?_
  refine zz_E.jf 7 rfl (by rfl) (by decide) rfl ?_
  refine zz_E.n 8 rfl rfl rfl ?_
  refine zz_E.cl (M' := zm_21) 11 rfl rfl (by decide) rfl rfl ⟨rfl, Nat.le_of_ble_eq_true rfl⟩ rfl ?_
  refine zz_E.n 1 rfl rfl rfl ?_
  refine zz_E.jf 4 rfl (by rfl) (by decide) rfl ?_
  refine zz_E.n 5 rfl rfl rfl ?_
  refine zz_E.n 7 rfl rfl rfl ?_
  refine zz_E.kf 10 rfl (by rfl) (by decide) rfl ?_
  refine zz_E.n 11 rfl rfl rfl ?_
  refine zz_E.n 15 rfl rfl rfl ?_
  refine zz_E.ret rfl rfl rfl ?_
  refine zz_E.jf 14 rfl (by rfl) (by decide) rfl ?_
  refine zz_E.n 15 rfl rfl rfl ?_
  refine zz_E.n 18 rfl rfl rfl ?_
  refine zz_E.n 19 rfl rfl rfl ?_
  refine zz_E.n 20 rfl rfl rfl ?_
  refine zz_E.cl (M' := zm_27) 23 rfl rfl (by decide) rfl rfl ⟨rfl, Nat.le_of_ble_eq_true rfl⟩ rfl ?_
  refine zz_E.n 1 rfl rfl rfl ?_
  refine zz_E.n 4 rfl rfl rfl ?_
  refine zz_E.n 5 rfl rfl rfl ?_
  refine zz_E.n 6 rfl rfl rfl ?_
  refine zz_E.n 7 rfl rfl rfl ?_
  refine zz_E.n 10 rfl rfl rfl ?_
  refine zz_E.n 11 rfl rfl rfl ?_
  refine zz_E.n 12 rfl rfl rfl ?_
  refine zz_E.kf 15 rfl (by rfl) (by decide) rfl ?_
  refine zz_E.n 16 rfl rfl rfl ?_
  refine zz_E.n 20 rfl rfl rfl ?_
  refine zz_E.n 21 rfl rfl rfl ?_
  refine zz_E.n 22 rfl rfl rfl ?_
  refine zz_E.n 24 rfl rfl rfl ?_
  refine zz_E.n 26 rfl rfl rfl ?_
  refine zz_E.n 27 rfl rfl rfl ?_
  refine zz_E.n 30 rfl rfl rfl ?_
  refine zz_E.n 31 rfl rfl rfl ?_
  refine zz_E.n 32 rfl rfl rfl ?_
  refine zz_E.kt 72 rfl (by rfl) (by decide) rfl ?_
  refine zz_E.n 73 rfl rfl rfl ?_
  refine zz_E.ret rfl rfl rfl ?_
  refine zz_E.jf 26 rfl (by rfl) (by decide) rfl ?_
  refine zz_E.n 27 rfl rfl rfl ?_
  refine zz_E.n 31 rfl rfl rfl ?_
  refine zz_E.ret rfl rfl rfl ?_
  refine zz_E.n 594 rfl rfl rfl ?_
  refine zz_E.n 595 rfl rfl rfl ?_
  refine zz_E.n 596 rfl rfl rfl ?_
  refine zz_E.n 597 rfl rfl rfl ?_
  refine zz_E.n 598 rfl rfl rfl ?_
  refine zz_E.n 599 rfl rfl rfl ?_
  refine zz_E.n 600 rfl rfl rfl ?_
  refine zz_E.n 601 rfl rfl rfl ?_
  refine zz_E.n 602 rfl rfl rfl ?_
  refine zz_E.n 603 rfl rfl rfl ?_
  refine zz_E.n 604 rfl rfl rfl ?_
  refine zz_E.cl (M' := zm_82) 607 rfl rfl (by decide) rfl rfl ⟨rfl, Nat.le_of_ble_eq_true rfl⟩ rfl ?_
  refine zz_E.n 1 rfl rfl rfl ?_
  refine zz_E.cl (M' := zm_73) 4 rfl rfl (by decide) rfl rfl ⟨rfl, Nat.le_of_ble_eq_true rfl⟩ rfl ?_
  refine zz_E.n 1 rfl rfl rfl ?_
  refine zz_E.jf 4 rfl (by rfl) (by decide) rfl ?_
  refine zz_E.n 5 rfl rfl rfl ?_
  refine zz_E.n 7 rfl rfl rfl ?_
  refine zz_E.kf 10 rfl (by rfl) (by decide) rfl ?_
  refine zz_E.n 11 rfl rfl rfl ?_
  refine zz_E.n 15 rfl rfl rfl ?_
  refine zz_E.ret rfl rfl rfl ?_
  refine zz_E.jf 7 rfl (by rfl) (by decide) rfl ?_
  refine zz_E.n 8 rfl rfl rfl ?_
  refine zz_E.cl (M' := zm_73) 11 rfl rfl (by decide) rfl rfl ⟨rfl, Nat.le_of_ble_eq_true rfl⟩ rfl ?_
  refine zz_E.n 1 rfl rfl rfl ?_
  refine zz_E.jf 4 rfl (by rfl) (by decide) rfl ?_
  refine zz_E.n 5 rfl rfl rfl ?_
  refine zz_E.n 7 rfl rfl rfl ?_
  refine zz_E.kf 10 rfl (by rfl) (by decide) rfl ?_
  refine zz_E.n 11 rfl rfl rfl ?_
  refine zz_E.n 15 rfl rfl rfl ?_
  refine zz_E.ret rfl rfl rfl ?_
  refine zz_E.jt 16 rfl (by rfl) (by decide) rfl ?_
  refine zz_E.n 19 rfl rfl rfl ?_
  refine zz_E.n 20 rfl rfl rfl ?_
  refine zz_E.n 21 rfl rfl rfl ?_
  refine zz_E.n 22 rfl rfl rfl ?_
  refine zz_E.n 25 rfl rfl rfl ?_
  refine zz_E.n 26 rfl rfl rfl ?_
  refine zz_E.n 27 rfl rfl rfl ?_
  refine zz_E.n 29 rfl rfl rfl ?_
  refine zz_E.n 30 rfl rfl rfl ?_
  refine zz_E.n 33 rfl rfl rfl ?_
  refine zz_E.n 34 rfl rfl rfl ?_
  refine zz_E.n 35 rfl rfl rfl ?_
  refine zz_E.jt 48 rfl (by rfl) (by decide) rfl ?_
  refine zz_E.n 49 rfl rfl rfl ?_
  refine zz_E.n 52 rfl rfl rfl ?_
  refine zz_E.n 53 rfl rfl rfl ?_
  refine zz_E.n 54 rfl rfl rfl ?_
  refine zz_E.n 55 rfl rfl rfl ?_
  refine zz_E.n 58 rfl rfl rfl ?_
  refine zz_E.n 60 rfl rfl rfl ?_
  refine zz_E.n 61 rfl rfl rfl ?_
  refine zz_E.kf 64 rfl (by rfl) (by decide) rfl ?_
  refine zz_E.n 65 rfl rfl rfl ?_
  refine zz_E.n 68 rfl rfl rfl ?_
  refine zz_E.n 69 rfl rfl rfl ?_
  refine zz_E.n 70 rfl rfl rfl ?_
  refine zz_E.jt 93 rfl (by rfl) (by decide) rfl ?_
  refine zz_E.n 94 rfl rfl rfl ?_
  refine zz_E.n 98 rfl rfl rfl ?_
  refine zz_E.ret rfl rfl rfl ?_
  refine zz_E.kt 652 rfl (by rfl) (by decide) rfl ?_
  refine zz_E.n 655 rfl rfl rfl ?_
  refine zz_E.n 18 rfl rfl rfl ?_
  refine zz_E.n 19 rfl rfl rfl ?_
  refine zz_E.n 20 rfl rfl rfl ?_
  refine zz_E.n 21 rfl rfl rfl ?_
  refine zz_E.n 23 rfl rfl rfl ?_
  refine zz_E.n 24 rfl rfl rfl ?_
  refine zz_E.kt 658 rfl (by rfl) (by decide) rfl ?_
  refine zz_E.n 659 rfl rfl rfl ?_
  refine zz_E.ret rfl rfl rfl ?_
  exact ⟨rfl, by decide +kernel, by decide +kernel⟩
set_option maxRecDepth 100000 in
set_option maxHeartbeats 8000000 in
theorem zv_k15_5_3 (xs : Nat → Int32) : zz_E zp_P zt_tf zt_fd (zt_X 6 (fun q => if q = 1 then nI 5 else if q = 2 then nI 3 else xs q)) 1000 zm_law 33 zv_L [.int (nI 15)] zv_h zv_Q := by
  refine zz_E.n 579 rfl rfl rfl ?_
  refine zz_E.n 580 rfl rfl rfl ?_
  refine zz_E.n 581 rfl rfl rfl ?_
  refine zz_E.n 582 rfl rfl rfl ?_
  refine zz_E.n 583 rfl rfl rfl ?_
  refine zz_E.n 584 rfl rfl rfl ?_
  refine zz_E.n 585 rfl rfl rfl ?_
  refine zz_E.n 586 rfl rfl rfl ?_
  refine zz_E.n 587 rfl rfl rfl ?_
  refine zz_E.n 588 rfl rfl rfl ?_
  refine zz_E.n 589 rfl rfl rfl ?_
  refine zz_E.n 590 rfl rfl rfl ?_
  refine zz_E.cl (M' := zm_17) 593 rfl rfl (by decide) rfl rfl ⟨rfl, Nat.le_of_ble_eq_true rfl⟩ rfl ?_
  refine zz_E.n 1 rfl rfl rfl ?_
  refine zz_E.cl (M' := zm_21) 4 rfl rfl (by decide) rfl rfl ⟨rfl, Nat.le_of_ble_eq_true rfl⟩ rfl ?_
  refine zz_E.n 1 rfl rfl rfl ?_
  refine zz_E.jf 4 rfl (by rfl) (by decide) rfl ?_
  refine zz_E.n 5 rfl rfl rfl ?_
  refine zz_E.n 7 rfl rfl rfl ?_
  refine zz_E.kf 10 rfl (by rfl) (by decide) rfl ?_
  refine zz_E.n 11 rfl rfl rfl ?_
  refine zz_E.n 15 rfl rfl rfl ?_
  refine zz_E.ret rfl rfl rfl ?_
  refine zz_E.jf 7 rfl (by rfl) (by decide) rfl ?_
  refine zz_E.n 8 rfl rfl rfl ?_
  refine zz_E.cl (M' := zm_21) 11 rfl rfl (by decide) rfl rfl ⟨rfl, Nat.le_of_ble_eq_true rfl⟩ rfl ?_
  refine zz_E.n 1 rfl rfl rfl ?_
  refine zz_E.jf 4 rfl (by rfl) (by decide) rfl ?_
  refine zz_E.n 5 rfl rfl rfl ?_
  refine zz_E.n 7 rfl rfl rfl ?_
  refine zz_E.kf 10 rfl (by rfl) (by decide) rfl ?_
  refine zz_E.n 11 rfl rfl rfl ?_
  refine zz_E.n 15 rfl rfl rfl ?_
  refine zz_E.ret rfl rfl rfl ?_
  refine zz_E.jf 14 rfl (by rfl) (by decide) rfl ?_
  refine zz_E.n 15 rfl rfl rfl ?_
  refine zz_E.n 18 rfl rfl rfl ?_
  refine zz_E.n 19 rfl rfl rfl ?_
  refine zz_E.n 20 rfl rfl rfl ?_
  refine zz_E.cl (M' := zm_27) 23 rfl rfl (by decide) rfl rfl ⟨rfl, Nat.le_of_ble_eq_true rfl⟩ rfl ?_
  refine zz_E.n 1 rfl rfl rfl ?_
  refine zz_E.n 4 rfl rfl rfl ?_
  refine zz_E.n 5 rfl rfl rfl ?_
  refine zz_E.n 6 rfl rfl rfl ?_
  refine zz_E.n 7 rfl rfl rfl ?_
  refine zz_E.n 10 rfl rfl rfl ?_
  refine zz_E.n 11 rfl rfl rfl ?_
  refine zz_E.n 12 rfl rfl rfl ?_
  refine zz_E.kf 15 rfl (by rfl) (by decide) rfl ?_
  refine zz_E.n 16 rfl rfl rfl ?_
  refine zz_E.n 20 rfl rfl rfl ?_
  refine zz_E.n 21 rfl rfl rfl ?_
  refine zz_E.n 22 rfl rfl rfl ?_
  refine zz_E.n 24 rfl rfl rfl ?_
  refine zz_E.n 26 rfl rfl rfl ?_
  refine zz_E.n 27 rfl rfl rfl ?_
  refine zz_E.n 30 rfl rfl rfl ?_
  refine zz_E.n 31 rfl rfl rfl ?_
  refine zz_E.n 32 rfl rfl rfl ?_
  refine zz_E.kt 72 rfl (by rfl) (by decide) rfl ?_
  refine zz_E.n 73 rfl rfl rfl ?_
  refine zz_E.ret rfl rfl rfl ?_
  refine zz_E.jf 26 rfl (by rfl) (by decide) rfl ?_
  refine zz_E.n 27 rfl rfl rfl ?_
  refine zz_E.n 31 rfl rfl rfl ?_
  refine zz_E.ret rfl rfl rfl ?_
  refine zz_E.n 594 rfl rfl rfl ?_
  refine zz_E.n 595 rfl rfl rfl ?_
  refine zz_E.n 596 rfl rfl rfl ?_
  refine zz_E.n 597 rfl rfl rfl ?_
  refine zz_E.n 598 rfl rfl rfl ?_
  refine zz_E.n 599 rfl rfl rfl ?_
  refine zz_E.n 600 rfl rfl rfl ?_
  refine zz_E.n 601 rfl rfl rfl ?_
  refine zz_E.n 602 rfl rfl rfl ?_
  refine zz_E.n 603 rfl rfl rfl ?_
  refine zz_E.n 604 rfl rfl rfl ?_
  refine zz_E.cl (M' := zm_82) 607 rfl rfl (by decide) rfl rfl ⟨rfl, Nat.le_of_ble_eq_true rfl⟩ rfl ?_
  refine zz_E.n 1 rfl rfl rfl ?_
  refine zz_E.cl (M' := zm_73) 4 rfl rfl (by decide) rfl rfl ⟨rfl, Nat.le_of_ble_eq_true rfl⟩ rfl ?_
  refine zz_E.n 1 rfl rfl rfl ?_
  refine zz_E.jf 4 rfl (by rfl) (by decide) rfl ?_
  refine zz_E.n 5 rfl rfl rfl ?_
  refine zz_E.n 7 rfl rfl rfl ?_
  refine zz_E.kf 10 rfl (by rfl) (by decide) rfl ?_
  refine zz_E.n 11 rfl rfl rfl ?_
  refine zz_E.n 15 rfl rfl rfl ?_
  refine zz_E.ret rfl rfl rfl ?_
  refine zz_E.jf 7 rfl (by rfl) (by decide) rfl ?_
  refine zz_E.n 8 rfl rfl rfl ?_
  refine zz_E.cl (M' := zm_73) 11 rfl rfl (by decide) rfl rfl ⟨rfl, Nat.le_of_ble_eq_true rfl⟩ rfl ?_
  refine zz_E.n 1 rfl rfl rfl ?_
  refine zz_E.jf 4 rfl (by rfl) (by decide) rfl ?_
  refine zz_E.n 5 rfl rfl rfl ?_
  refine zz_E.n 7 rfl rfl rfl ?_
  refine zz_E.kf 10 rfl (by rfl) (by decide) rfl ?_
  refine zz_E.n 11 rfl rfl rfl ?_
  refine zz_E.n 15 rfl rfl rfl ?_
  refine zz_E.ret rfl rfl rfl ?_
  refine zz_E.jt 16 rfl (by rfl) (by decide) rfl ?_
  refine zz_E.n 19 rfl rfl rfl ?_
  refine zz_E.n 20 rfl rfl rfl ?_
  refine zz_E.n 21 rfl rfl rfl ?_
  refine zz_E.n 22 rfl rfl rfl ?_
  refine zz_E.n 25 rfl rfl rfl ?_
  refine zz_E.n 26 rfl rfl rfl ?_
  refine zz_E.n 27 rfl rfl rfl ?_
  refine zz_E.n 29 rfl rfl rfl ?_
  refine zz_E.n 30 rfl rfl rfl ?_
  refine zz_E.n 33 rfl rfl rfl ?_
  refine zz_E.n 34 rfl rfl rfl ?_
  refine zz_E.n 35 rfl rfl rfl ?_
  refine zz_E.jt 48 rfl (by rfl) (by decide) rfl ?_
  refine zz_E.n 49 rfl rfl rfl ?_
  refine zz_E.n 52 rfl rfl rfl ?_
  refine zz_E.n 53 rfl rfl rfl ?_
  refine zz_E.n 54 rfl rfl rfl ?_
  refine zz_E.n 55 rfl rfl rfl ?_
  refine zz_E.n 58 rfl rfl rfl ?_
  refine zz_E.n 60 rfl rfl rfl ?_
  refine zz_E.n 61 rfl rfl rfl ?_
  refine zz_E.kf 64 rfl (by rfl) (by decide) rfl ?_
  refine zz_E.n 65 rfl rfl rfl ?_
  refine zz_E.n 68 rfl rfl rfl ?_
  refine zz_E.n 69 rfl rfl rfl ?_
  refine zz_E.n 70 rfl rfl rfl ?_
  refine zz_E.jt 93 rfl (by rfl) (by decide) rfl ?_
  refine zz_E.n 94 rfl rfl rfl ?_
  refine zz_E.n 98 rfl rfl rfl ?_
  refine zz_E.ret rfl rfl rfl ?_
  refine zz_E.kt 652 rfl (by rfl) (by decide) rfl ?_
  refine zz_E.n 655 rfl rfl rfl ?_
  refine zz_E.n 18 rfl rfl rfl ?_
  refine zz_E.n 19 rfl rfl rfl ?_
  refine zz_E.n 20 rfl rfl rfl ?_
  refine zz_E.n 21 rfl rfl rfl ?_
  refine zz_E.n 23 rfl rfl rfl ?_
  refine zz_E.n 24 rfl rfl rfl ?_
  refine zz_E.kt 658 rfl (by rfl) (by decide) rfl ?_
  refine zz_E.n 659 rfl rfl rfl ?_
  refine zz_E.ret rfl rfl rfl ?_
  exact ⟨rfl, by decide +kernel, by decide +kernel⟩
set_option maxRecDepth 100000 in
set_option maxHeartbeats 8000000 in
theorem zv_k15_5_4 (xs : Nat → Int32) : zz_E zp_P zt_tf zt_fd (zt_X 6 (fun q => if q = 1 then nI 5 else if q = 2 then nI 4 else xs q)) 1000 zm_law 33 zv_L [.int (nI 15)] zv_h zv_Q := by
  refine zz_E.n 579 rfl rfl rfl ?_
  refine zz_E.n 580 rfl rfl rfl ?_
  refine zz_E.n 581 rfl rfl rfl ?_
  refine zz_E.n 582 rfl rfl rfl ?_
  refine zz_E.n 583 rfl rfl rfl ?_
  refine zz_E.n 584 rfl rfl rfl ?_
  refine zz_E.n 585 rfl rfl rfl ?_
  refine zz_E.n 586 rfl rfl rfl ?_
  refine zz_E.n 587 rfl rfl rfl ?_
  refine zz_E.n 588 rfl rfl rfl ?_
  refine zz_E.n 589 rfl rfl rfl ?_
  refine zz_E.n 590 rfl rfl rfl ?_
  refine zz_E.cl (M' := zm_17) 593 rfl rfl (by decide) rfl rfl ⟨rfl, Nat.le_of_ble_eq_true rfl⟩ rfl ?_
  refine zz_E.n 1 rfl rfl rfl ?_
  refine zz_E.cl (M' := zm_21) 4 rfl rfl (by decide) rfl rfl ⟨rfl, Nat.le_of_ble_eq_true rfl⟩ rfl ?_
  refine zz_E.n 1 rfl rfl rfl ?_
  refine zz_E.jf 4 rfl (by rfl) (by decide) rfl ?_
  refine zz_E.n 5 rfl rfl rfl ?_
  refine zz_E.n 7 rfl rfl rfl ?_
  refine zz_E.kf 10 rfl (by rfl) (by decide) rfl ?_
  refine zz_E.n 11 rfl rfl rfl ?_
  refine zz_E.n 15 rfl rfl rfl ?_
  refine zz_E.ret rfl rfl rfl ?_
  refine zz_E.jf 7 rfl (by rfl) (by decide) rfl ?_
  refine zz_E.n 8 rfl rfl rfl ?_
  refine zz_E.cl (M' := zm_21) 11 rfl rfl (by decide) rfl rfl ⟨rfl, Nat.le_of_ble_eq_true rfl⟩ rfl ?_
  refine zz_E.n 1 rfl rfl rfl ?_
  refine zz_E.jf 4 rfl (by rfl) (by decide) rfl ?_
  refine zz_E.n 5 rfl rfl rfl ?_
  refine zz_E.n 7 rfl rfl rfl ?_
  refine zz_E.kf 10 rfl (by rfl) (by decide) rfl ?_
  refine zz_E.n 11 rfl rfl rfl ?_
  refine zz_E.n 15 rfl rfl rfl ?_
  refine zz_E.ret rfl rfl rfl ?_
  refine zz_E.jf 14 rfl (by rfl) (by decide) rfl ?_
  refine zz_E.n 15 rfl rfl rfl ?_
  refine zz_E.n 18 rfl rfl rfl ?_
  refine zz_E.n 19 rfl rfl rfl ?_
  refine zz_E.n 20 rfl rfl rfl ?_
  refine zz_E.cl (M' := zm_27) 23 rfl rfl (by decide) rfl rfl ⟨rfl, Nat.le_of_ble_eq_true rfl⟩ rfl ?_
  refine zz_E.n 1 rfl rfl rfl ?_
  refine zz_E.n 4 rfl rfl rfl ?_
  refine zz_E.n 5 rfl rfl rfl ?_
  refine zz_E.n 6 rfl rfl rfl ?_
  refine zz_E.n 7 rfl rfl rfl ?_
  refine zz_E.n 10 rfl rfl rfl ?_
  refine zz_E.n 11 rfl rfl rfl ?_
  refine zz_E.n 12 rfl rfl rfl ?_
  refine zz_E.kf 15 rfl (by rfl) (by decide) rfl ?_
  refine zz_E.n 16 rfl rfl rfl ?_
  refine zz_E.n 20 rfl rfl rfl ?_
  refine zz_E.n 21 rfl rfl rfl ?_
  refine zz_E.n 22 rfl rfl rfl ?_
  refine zz_E.n 24 rfl rfl rfl ?_
  refine zz_E.n 26 rfl rfl rfl ?_
  refine zz_E.n 27 rfl rfl rfl ?_
  refine zz_E.n 30 rfl rfl rfl ?_
  refine zz_E.n 31 rfl rfl rfl ?_
  refine zz_E.n 32 rfl rfl rfl ?_
  refine zz_E.kt 72 rfl (by rfl) (by decide) rfl ?_
  refine zz_E.n 73 rfl rfl rfl ?_
  refine zz_E.ret rfl rfl rfl ?_
  refine zz_E.jf 26 rfl (by rfl) (by decide) rfl ?_
  refine zz_E.n 27 rfl rfl rfl ?_
  refine zz_E.n 31 rfl rfl rfl ?_
  refine zz_E.ret rfl rfl rfl ?_
  refine zz_E.n 594 rfl rfl rfl ?_
  refine zz_E.n 595 rfl rfl rfl ?_
  refine zz_E.n 596 rfl rfl rfl ?_
  refine zz_E.n 597 rfl rfl rfl ?_
  refine zz_E.n 598 rfl rfl rfl ?_
  refine zz_E.n 599 rfl rfl rfl ?_
  refine zz_E.n 600 rfl rfl rfl ?_
  refine zz_E.n 601 rfl rfl rfl ?_
  refine zz_E.n 602 rfl rfl rfl ?_
  refine zz_E.n 603 rfl rfl rfl ?_
  refine zz_E.n 604 rfl rfl rfl ?_
  refine zz_E.cl (M' := zm_82) 607 rfl rfl (by decide) rfl rfl ⟨rfl, Nat.le_of_ble_eq_true rfl⟩ rfl ?_
  refine zz_E.n 1 rfl rfl rfl ?_
  refine zz_E.cl (M' := zm_73) 4 rfl rfl (by decide) rfl rfl ⟨rfl, Nat.le_of_ble_eq_true rfl⟩ rfl ?_
  refine zz_E.n 1 rfl rfl rfl ?_
  refine zz_E.jf 4 rfl (by rfl) (by decide) rfl ?_
  refine zz_E.n 5 rfl rfl rfl ?_
  refine zz_E.n 7 rfl rfl rfl ?_
  refine zz_E.kf 10 rfl (by rfl) (by decide) rfl ?_
  refine zz_E.n 11 rfl rfl rfl ?_
  refine zz_E.n 15 rfl rfl rfl ?_
  refine zz_E.ret rfl rfl rfl ?_
  refine zz_E.jf 7 rfl (by rfl) (by decide) rfl ?_
  refine zz_E.n 8 rfl rfl rfl ?_
  refine zz_E.cl (M' := zm_73) 11 rfl rfl (by decide) rfl rfl ⟨rfl, Nat.le_of_ble_eq_true rfl⟩ rfl ?_
  refine zz_E.n 1 rfl rfl rfl ?_
  refine zz_E.jf 4 rfl (by rfl) (by decide) rfl ?_
  refine zz_E.n 5 rfl rfl rfl ?_
  refine zz_E.n 7 rfl rfl rfl ?_
  refine zz_E.kf 10 rfl (by rfl) (by decide) rfl ?_
  refine zz_E.n 11 rfl rfl rfl ?_
  refine zz_E.n 15 rfl rfl rfl ?_
  refine zz_E.ret rfl rfl rfl ?_
  refine zz_E.jt 16 rfl (by rfl) (by decide) rfl ?_
  refine zz_E.n 19 rfl rfl rfl ?_
  refine zz_E.n 20 rfl rfl rfl ?_
  refine zz_E.n 21 rfl rfl rfl ?_
  refine zz_E.n 22 rfl rfl rfl ?_
  refine zz_E.n 25 rfl rfl rfl ?_
  refine zz_E.n 26 rfl rfl rfl ?_
  refine zz_E.n 27 rfl rfl rfl ?_
  refine zz_E.n 29 rfl rfl rfl ?_
  refine zz_E.n 30 rfl rfl rfl ?_
  refine zz_E.n 33 rfl rfl rfl ?_
  refine zz_E.n 34 rfl rfl rfl ?_
  refine zz_E.n 35 rfl rfl rfl ?_
  refine zz_E.jt 48 rfl (by rfl) (by decide) rfl ?_
  refine zz_E.n 49 rfl rfl rfl ?_
  refine zz_E.n 52 rfl rfl rfl ?_
  refine zz_E.n 53 rfl rfl rfl ?_
  refine zz_E.n 54 rfl rfl rfl ?_
  refine zz_E.n 55 rfl rfl rfl ?_
  refine zz_E.n 58 rfl rfl rfl ?_
  refine zz_E.n 60 rfl rfl rfl ?_
  refine zz_E.n 61 rfl rfl rfl ?_
  refine zz_E.kf 64 rfl (by rfl) (by decide) rfl ?_
  refine zz_E.n 65 rfl rfl rfl ?_
  refine zz_E.n 68 rfl rfl rfl ?_
  refine zz_E.n 69 rfl rfl rfl ?_
  refine zz_E.n 70 rfl rfl rfl ?_
  refine zz_E.jt 93 rfl (by rfl) (by decide) rfl ?_
  refine zz_E.n 94 rfl rfl rfl ?_
  refine zz_E.n 98 rfl rfl rfl ?_
  refine zz_E.ret rfl rfl rfl ?_
  refine zz_E.kt 652 rfl (by rfl) (by decide) rfl ?_
  refine zz_E.n 655 rfl rfl rfl ?_
  refine zz_E.n 18 rfl rfl rfl ?_
  refine zz_E.n 19 rfl rfl rfl ?_
  refine zz_E.n 20 rfl rfl rfl ?_
  refine zz_E.n 21 rfl rfl rfl ?_
  refine zz_E.n 23 rfl rfl rfl ?_
  refine zz_E.n 24 rfl rfl rfl ?_
  refine zz_E.kt 658 rfl (by rfl) (by decide) rfl ?_
  refine zz_E.n 659 rfl rfl rfl ?_
  refine zz_E.ret rfl rfl rfl ?_
  exact ⟨rfl, by decide +kernel, by decide +kernel⟩
set_option maxRecDepth 100000 in
set_option maxHeartbeats 8000000 in
theorem zv_k15_5_5 (xs : Nat → Int32) : zz_E zp_P zt_tf zt_fd (zt_X 6 (fun q => if q = 1 then nI 5 else if q = 2 then nI 5 else xs q)) 1000 zm_law 33 zv_L [.int (nI 15)] zv_h zv_Q := by
  refine zz_E.n 579 rfl rfl rfl ?_
  refine zz_E.n 580 rfl rfl rfl ?_
  refine zz_E.n 581 rfl rfl rfl ?_
  refine zz_E.n 582 rfl rfl rfl ?_
  refine zz_E.n 583 rfl rfl rfl ?_
  refine zz_E.n 584 rfl rfl rfl ?_
  refine zz_E.n 585 rfl rfl rfl ?_
  refine zz_E.n 586 rfl rfl rfl ?_
  refine zz_E.n 587 rfl rfl rfl ?_
  refine zz_E.n 588 rfl rfl rfl ?_
  refine zz_E.n 589 rfl rfl rfl ?_
  refine zz_E.n 590 rfl rfl rfl ?_
  refine zz_E.cl (M' := zm_17) 593 rfl rfl (by decide) rfl rfl ⟨rfl, Nat.le_of_ble_eq_true rfl⟩ rfl ?_
  refine zz_E.n 1 rfl rfl rfl ?_
  refine zz_E.cl (M' := zm_21) 4 rfl rfl (by decide) rfl rfl ⟨rfl, Nat.le_of_ble_eq_true rfl⟩ rfl ?_
  refine zz_E.n 1 rfl rfl rfl ?_
  refine zz_E.jf 4 rfl (by rfl) (by decide) rfl ?_
  refine zz_E.n 5 rfl rfl rfl ?_
  refine zz_E.n 7 rfl rfl rfl ?_
  refine zz_E.kf 10 rfl (by rfl) (by decide) rfl ?_
  refine zz_E.n 11 rfl rfl rfl ?_
  refine zz_E.n 15 rfl rfl rfl ?_
  refine zz_E.ret rfl rfl rfl ?_
  refine zz_E.jf 7 rfl (by rfl) (by decide) rfl ?_
  refine zz_E.n 8 rfl rfl rfl ?_
  refine zz_E.cl (M' := zm_21) 11 rfl rfl (by decide) rfl rfl ⟨rfl, Nat.le_of_ble_eq_true rfl⟩ rfl ?_
  refine zz_E.n 1 rfl rfl rfl ?_
  refine zz_E.jf 4 rfl (by rfl) (by decide) rfl ?_
  refine zz_E.n 5 rfl rfl rfl ?_
  refine zz_E.n 7 rfl rfl rfl ?_
  refine zz_E.kf 10 rfl (by rfl) (by decide) rfl ?_
  refine zz_E.n 11 rfl rfl rfl ?_
  refine zz_E.n 15 rfl rfl rfl ?_
  refine zz_E.ret rfl rfl rfl ?_
  refine zz_E.jf 14 rfl (by rfl) (by decide) rfl ?_
  refine zz_E.n 15 rfl rfl rfl ?_
  refine zz_E.n 18 rfl rfl rfl ?_
  refine zz_E.n 19 rfl rfl rfl ?_
  refine zz_E.n 20 rfl rfl rfl ?_
  refine zz_E.cl (M' := zm_27) 23 rfl rfl (by decide) rfl rfl ⟨rfl, Nat.le_of_ble_eq_true rfl⟩ rfl ?_
  refine zz_E.n 1 rfl rfl rfl ?_
  refine zz_E.n 4 rfl rfl rfl ?_
  refine zz_E.n 5 rfl rfl rfl ?_
  refine zz_E.n 6 rfl rfl rfl ?_
  refine zz_E.n 7 rfl rfl rfl ?_
  refine zz_E.n 10 rfl rfl rfl ?_
  refine zz_E.n 11 rfl rfl rfl ?_
  refine zz_E.n 12 rfl rfl rfl ?_
  refine zz_E.kf 15 rfl (by rfl) (by decide) rfl ?_
  refine zz_E.n 16 rfl rfl rfl ?_
  refine zz_E.n 20 rfl rfl rfl ?_
  refine zz_E.n 21 rfl rfl rfl ?_
  refine zz_E.n 22 rfl rfl rfl ?_
  refine zz_E.n 24 rfl rfl rfl ?_
  refine zz_E.n 26 rfl rfl rfl ?_
  refine zz_E.n 27 rfl rfl rfl ?_
  refine zz_E.n 30 rfl rfl rfl ?_
  refine zz_E.n 31 rfl rfl rfl ?_
  refine zz_E.n 32 rfl rfl rfl ?_
  refine zz_E.kt 72 rfl (by rfl) (by decide) rfl ?_
  refine zz_E.n 73 rfl rfl rfl ?_
  refine zz_E.ret rfl rfl rfl ?_
  refine zz_E.jf 26 rfl (by rfl) (by decide) rfl ?_
  refine zz_E.n 27 rfl rfl rfl ?_
  refine zz_E.n 31 rfl rfl rfl ?_
  refine zz_E.ret rfl rfl rfl ?_
  refine zz_E.n 594 rfl rfl rfl ?_
  refine zz_E.n 595 rfl rfl rfl ?_
  refine zz_E.n 596 rfl rfl rfl ?_
  refine zz_E.n 597 rfl rfl rfl ?_
  refine zz_E.n 598 rfl rfl rfl ?_
  refine zz_E.n 599 rfl rfl rfl ?_
  refine zz_E.n 600 rfl rfl rfl ?_
  refine zz_E.n 601 rfl rfl rfl ?_
  refine zz_E.n 602 rfl rfl rfl ?_
  refine zz_E.n 603 rfl rfl rfl ?_
  refine zz_E.n 604 rfl rfl rfl ?_
  refine zz_E.cl (M' := zm_82) 607 rfl rfl (by decide) rfl rfl ⟨rfl, Nat.le_of_ble_eq_true rfl⟩ rfl ?_
  refine zz_E.n 1 rfl rfl rfl ?_
  refine zz_E.cl (M' := zm_73) 4 rfl rfl (by decide) rfl rfl ⟨rfl, Nat.le_of_ble_eq_true rfl⟩ rfl ?_
  refine zz_E.n 1 rfl rfl rfl ?_
  refine zz_E.jf 4 rfl (by rfl) (by decide) rfl ?_
  refine zz_E.n 5 rfl rfl rfl ?_
  refine zz_E.n 7 rfl rfl rfl ?_
  refine zz_E.kf 10 rfl (by rfl) (by decide) rfl ?_
  refine zz_E.n 11 rfl rfl rfl ?_
  refine zz_E.n 15 rfl rfl rfl ?_
  refine zz_E.ret rfl rfl rfl ?_
  refine zz_E.jf 7 rfl (by rfl) (by decide) rfl ?_
  refine zz_E.n 8 rfl rfl rfl ?_
  refine zz_E.cl (M' := zm_73) 11 rfl rfl (by decide) rfl rfl ⟨rfl, Nat.le_of_ble_eq_true rfl⟩ rfl ?_
  refine zz_E.n 1 rfl rfl rfl ?_
  refine zz_E.jf 4 rfl (by rfl) (by decide) rfl ?_
  refine zz_E.n 5 rfl rfl rfl ?_
  refine zz_E.n 7 rfl rfl rfl ?_
  refine zz_E.kf 10 rfl (by rfl) (by decide) rfl ?_
  refine zz_E.n 11 rfl rfl rfl ?_
  refine zz_E.n 15 rfl rfl rfl ?_
  refine zz_E.ret rfl rfl rfl ?_
  refine zz_E.jt 16 rfl (by rfl) (by decide) rfl ?_
  refine zz_E.n 19 rfl rfl rfl ?_
  refine zz_E.n 20 rfl rfl rfl ?_
  refine zz_E.n 21 rfl rfl rfl ?_
  refine zz_E.n 22 rfl rfl rfl ?_
  refine zz_E.n 25 rfl rfl rfl ?_
  refine zz_E.n 26 rfl rfl rfl ?_
  refine zz_E.n 27 rfl rfl rfl ?_
  refine zz_E.n 29 rfl rfl rfl ?_
  refine zz_E.n 30 rfl rfl rfl ?_
  refine zz_E.n 33 rfl rfl rfl ?_
  refine zz_E.n 34 rfl rfl rfl ?_
  refine zz_E.n 35 rfl rfl rfl ?_
  refine zz_E.jt 48 rfl (by rfl) (by decide) rfl ?_
  refine zz_E.n 49 rfl rfl rfl ?_
  refine zz_E.n 52 rfl rfl rfl ?_
  refine zz_E.n 53 rfl rfl rfl ?_
  refine zz_E.n 54 rfl rfl rfl ?_
  refine zz_E.n 55 rfl rfl rfl ?_
  refine zz_E.n 58 rfl rfl rfl ?_
  refine zz_E.n 60 rfl rfl rfl ?_
  refine zz_E.n 61 rfl rfl rfl ?_
  refine zz_E.kf 64 rfl (by rfl) (by decide) rfl ?_
  refine zz_E.n 65 rfl rfl rfl ?_
  refine zz_E.n 68 rfl rfl rfl ?_
  refine zz_E.n 69 rfl rfl rfl ?_
  refine zz_E.n 70 rfl rfl rfl ?_
  refine zz_E.jt 93 rfl (by rfl) (by decide) rfl ?_
  refine zz_E.n 94 rfl rfl rfl ?_
  refine zz_E.n 98 rfl rfl rfl ?_
  refine zz_E.ret rfl rfl rfl ?_
  refine zz_E.kt 652 rfl (by rfl) (by decide) rfl ?_
  refine zz_E.n 655 rfl rfl rfl ?_
  refine zz_E.n 18 rfl rfl rfl ?_
  refine zz_E.n 19 rfl rfl rfl ?_
  refine zz_E.n 20 rfl rfl rfl ?_
  refine zz_E.n 21 rfl rfl rfl ?_
  refine zz_E.n 23 rfl rfl rfl ?_
  refine zz_E.n 24 rfl rfl rfl ?_
  refine zz_E.kt 658 rfl (by rfl) (by decide) rfl ?_
  refine zz_E.n 659 rfl rfl rfl ?_
  refine zz_E.ret rfl rfl rfl ?_
  exact ⟨rfl, by decide +kernel, by decide +kernel⟩
set_option maxRecDepth 100000 in
set_option maxHeartbeats 8000000 in
theorem zv_k15_5_6 (xs : Nat → Int32) : zz_E zp_P zt_tf zt_fd (zt_X 6 (fun q => if q = 1 then nI 5 else if q = 2 then nI 6 else xs q)) 1000 zm_law 33 zv_L [.int (nI 15)] zv_h zv_Q := by
  refine zz_E.n 579 rfl rfl rfl ?_
  refine zz_E.n 580 rfl rfl rfl ?_
  refine zz_E.n 581 rfl rfl rfl ?_
  refine zz_E.n 582 rfl rfl rfl ?_
  refine zz_E.n 583 rfl rfl rfl ?_
  refine zz_E.n 584 rfl rfl rfl ?_
  refine zz_E.n 585 rfl rfl rfl ?_
  refine zz_E.n 586 rfl rfl rfl ?_
  refine zz_E.n 587 rfl rfl rfl ?_
  refine zz_E.n 588 rfl rfl rfl ?_
  refine zz_E.n 589 rfl rfl rfl ?_
  refine zz_E.n 590 rfl rfl rfl ?_
  refine zz_E.cl (M' := zm_17) 593 rfl rfl (by decide) rfl rfl ⟨rfl, Nat.le_of_ble_eq_true rfl⟩ rfl ?_
  refine zz_E.n 1 rfl rfl rfl ?_
  refine zz_E.cl (M' := zm_21) 4 rfl rfl (by decide) rfl rfl ⟨rfl, Nat.le_of_ble_eq_true rfl⟩ rfl ?_
  refine zz_E.n 1 rfl rfl rfl ?_
  refine zz_E.jf 4 rfl (by rfl) (by decide) rfl ?_
  refine zz_E.n 5 rfl rfl rfl ?_
  refine zz_E.n 7 rfl rfl rfl ?_
  refine zz_E.kf 10 rfl (by rfl) (by decide) rfl ?_
  refine zz_E.n 11 rfl rfl rfl ?_
  refine zz_E.n 15 rfl rfl rfl ?_
  refine zz_E.ret rfl rfl rfl ?_
  refine zz_E.jf 7 rfl (by rfl) (by decide) rfl ?_
  refine zz_E.n 8 rfl rfl rfl ?_
  refine zz_E.cl (M' := zm_21) 11 rfl rfl (by decide) rfl rfl ⟨rfl, Nat.le_of_ble_eq_true rfl⟩ rfl ?_
  refine zz_E.n 1 rfl rfl rfl ?_
  refine zz_E.jf 4 rfl (by rfl) (by decide) rfl ?_
  refine zz_E.n 5 rfl rfl rfl ?_
  refine zz_E.n 7 rfl rfl rfl ?_
  refine zz_E.kf 10 rfl (by rfl) (by decide) rfl ?_
  refine zz_E.n 11 rfl rfl rfl ?_
  refine zz_E.n 15 rfl rfl rfl ?_
  refine zz_E.ret rfl rfl rfl ?_
  refine zz_E.jf 14 rfl (by rfl) (by decide) rfl ?_
  refine zz_E.n 15 rfl rfl rfl ?_
  refine zz_E.n 18 rfl rfl rfl ?_
  refine zz_E.n 19 rfl rfl rfl ?_
  refine zz_E.n 20 rfl rfl rfl ?_
  refine zz_E.cl (M' := zm_27) 23 rfl rfl (by decide) rfl rfl ⟨rfl, Nat.le_of_ble_eq_true rfl⟩ rfl ?_
  refine zz_E.n 1 rfl rfl rfl ?_
  refine zz_E.n 4 rfl rfl rfl ?_
  refine zz_E.n 5 rfl rfl rfl ?_
  refine zz_E.n 6 rfl rfl rfl ?_
  refine zz_E.n 7 rfl rfl rfl ?_
  refine zz_E.n 10 rfl rfl rfl ?_
  refine zz_E.n 11 rfl rfl rfl ?_
  refine zz_E.n 12 rfl rfl rfl ?_
  refine zz_E.kf 15 rfl (by rfl) (by decide) rfl ?_
  refine zz_E.n 16 rfl rfl rfl ?_
  refine zz_E.n 20 rfl rfl rfl ?_
  refine zz_E.n 21 rfl rfl rfl ?_
  refine zz_E.n 22 rfl rfl rfl ?_
  refine zz_E.n 24 rfl rfl rfl ?_
  refine zz_E.n 26 rfl rfl rfl ?_
  refine zz_E.n 27 rfl rfl rfl ?_
  refine zz_E.n 30 rfl rfl rfl ?_
  refine zz_E.n 31 rfl rfl rfl ?_
  refine zz_E.n 32 rfl rfl rfl ?_
  refine zz_E.kt 72 rfl (by rfl) (by decide) rfl ?_
  refine zz_E.n 73 rfl rfl rfl ?_
  refine zz_E.ret rfl rfl rfl ?_
  refine zz_E.jf 26 rfl (by rfl) (by decide) rfl ?_
  refine zz_E.n 27 rfl rfl rfl ?_
  refine zz_E.n 31 rfl rfl rfl ?_
  refine zz_E.ret rfl rfl rfl ?_
  refine zz_E.n 594 rfl rfl rfl ?_
  refine zz_E.n 595 rfl rfl rfl ?_
  refine zz_E.n 596 rfl rfl rfl ?_
  refine zz_E.n 597 rfl rfl rfl ?_
  refine zz_E.n 598 rfl rfl rfl ?_
  refine zz_E.n 599 rfl rfl rfl ?_
  refine zz_E.n 600 rfl rfl rfl ?_
  refine zz_E.n 601 rfl rfl rfl ?_
  refine zz_E.n 602 rfl rfl rfl ?_
  refine zz_E.n 603 rfl rfl rfl ?_
  refine zz_E.n 604 rfl rfl rfl ?_
  refine zz_E.cl (M' := zm_82) 607 rfl rfl (by decide) rfl rfl ⟨rfl, Nat.le_of_ble_eq_true rfl⟩ rfl ?_
  refine zz_E.n 1 rfl rfl rfl ?_
  refine zz_E.cl (M' := zm_73) 4 rfl rfl (by decide) rfl rfl ⟨rfl, Nat.le_of_ble_eq_true rfl⟩ rfl ?_
  refine zz_E.n 1 rfl rfl rfl ?_
  refine zz_E.jf 4 rfl (by rfl) (by decide) rfl ?_
  refine zz_E.n 5 rfl rfl rfl ?_
  refine zz_E.n 7 rfl rfl rfl ?_
  refine zz_E.kf 10 rfl (by rfl) (by decide) rfl ?_
  refine zz_E.n 11 rfl rfl rfl ?_
  refine zz_E.n 15 rfl rfl rfl ?_
  refine zz_E.ret rfl rfl rfl ?_
  refine zz_E.jf 7 rfl (by rfl) (by decide) rfl ?_
  refine zz_E.n 8 rfl rfl rfl ?_
  refine zz_E.cl (M' := zm_73) 11 rfl rfl (by decide) rfl rfl ⟨rfl, Nat.le_of_ble_eq_true rfl⟩ rfl ?_
  refine zz_E.n 1 rfl rfl rfl ?_
  refine zz_E.jf 4 rfl (by rfl) (by decide) rfl ?_
  refine zz_E.n 5 rfl rfl rfl ?_
  refine zz_E.n 7 rfl rfl rfl ?_
  refine zz_E.kf 10 rfl (by rfl) (by decide) rfl ?_
  refine zz_E.n 11 rfl rfl rfl ?_
  refine zz_E.n 15 rfl rfl rfl ?_
  refine zz_E.ret rfl rfl rfl ?_
  refine zz_E.jt 16 rfl (by rfl) (by decide) rfl ?_
  refine zz_E.n 19 rfl rfl rfl ?_
  refine zz_E.n 20 rfl rfl rfl ?_
  refine zz_E.n 21 rfl rfl rfl ?_
  refine zz_E.n 22 rfl rfl rfl ?_
  refine zz_E.n 25 rfl rfl rfl ?_
  refine zz_E.n 26 rfl rfl rfl ?_
  refine zz_E.n 27 rfl rfl rfl ?_
  refine zz_E.n 29 rfl rfl rfl ?_
  refine zz_E.n 30 rfl rfl rfl ?_
  refine zz_E.n 33 rfl rfl rfl ?_
  refine zz_E.n 34 rfl rfl rfl ?_
  refine zz_E.n 35 rfl rfl rfl ?_
  refine zz_E.jt 48 rfl (by rfl) (by decide) rfl ?_
  refine zz_E.n 49 rfl rfl rfl ?_
  refine zz_E.n 52 rfl rfl rfl ?_
  refine zz_E.n 53 rfl rfl rfl ?_
  refine zz_E.n 54 rfl rfl rfl ?_
  refine zz_E.n 55 rfl rfl rfl ?_
  refine zz_E.n 58 rfl rfl rfl ?_
  refine zz_E.n 60 rfl rfl rfl ?_
  refine zz_E.n 61 rfl rfl rfl ?_
  refine zz_E.kf 64 rfl (by rfl) (by decide) rfl ?_
  refine zz_E.n 65 rfl rfl rfl ?_
  refine zz_E.n 68 rfl rfl rfl ?_
  refine zz_E.n 69 rfl rfl rfl ?_
  refine zz_E.n 70 rfl rfl rfl ?_
  refine zz_E.jt 93 rfl (by rfl) (by decide) rfl ?_
  refine zz_E.n 94 rfl rfl rfl ?_
  refine zz_E.n 98 rfl rfl rfl ?_
  refine zz_E.ret rfl rfl rfl ?_
  refine zz_E.kt 652 rfl (by rfl) (by decide) rfl ?_
  refine zz_E.n 655 rfl rfl rfl ?_
  refine zz_E.n 18 rfl rfl rfl ?_
  refine zz_E.n 19 rfl rfl rfl ?_
  refine zz_E.n 20 rfl rfl rfl ?_
  refine zz_E.n 21 rfl rfl rfl ?_
  refine zz_E.n 23 rfl rfl rfl ?_
  refine zz_E.n 24 rfl rfl rfl ?_
  refine zz_E.kt 658 rfl (by rfl) (by decide) rfl ?_
  refine zz_E.n 659 rfl rfl rfl ?_
  refine zz_E.ret rfl rfl rfl ?_
  exact ⟨rfl, by decide +kernel, by decide +kernel⟩
set_option maxRecDepth 100000 in
set_option maxHeartbeats 8000000 in
theorem zv_k15_5_7 (xs : Nat → Int32) : zz_E zp_P zt_tf zt_fd (zt_X 6 (fun q => if q = 1 then nI 5 else if q = 2 then nI 7 else xs q)) 1000 zm_law 33 zv_L [.int (nI 15)] zv_h zv_Q := by
  refine zz_E.n 579 rfl rfl rfl ?_
  refine zz_E.n 580 rfl rfl rfl ?_
  refine zz_E.n 581 rfl rfl rfl ?_
  refine zz_E.n 582 rfl rfl rfl ?_
  refine zz_E.n 583 rfl rfl rfl ?_
  refine zz_E.n 584 rfl rfl rfl ?_
  refine zz_E.n 585 rfl rfl rfl ?_
  refine zz_E.n 586 rfl rfl rfl ?_
  refine zz_E.n 587 rfl rfl rfl ?_
  refine zz_E.n 588 rfl rfl rfl ?_
  refine zz_E.n 589 rfl rfl rfl ?_
  refine zz_E.n 590 rfl rfl rfl ?_
  refine zz_E.cl (M' := zm_17) 593 rfl rfl (by decide) rfl rfl ⟨rfl, Nat.le_of_ble_eq_true rfl⟩ rfl ?_
  refine zz_E.n 1 rfl rfl rfl ?_
  refine zz_E.cl (M' := zm_21) 4 rfl rfl (by decide) rfl rfl ⟨rfl, Nat.le_of_ble_eq_true rfl⟩ rfl ?_
  refine zz_E.n 1 rfl rfl rfl ?_
  refine zz_E.jf 4 rfl (by rfl) (by decide) rfl ?_
  refine zz_E.n 5 rfl rfl rfl ?_
  refine zz_E.n 7 rfl rfl rfl ?_
  refine zz_E.kf 10 rfl (by rfl) (by decide) rfl ?_
  refine zz_E.n 11 rfl rfl rfl ?_
  refine zz_E.n 15 rfl rfl rfl ?_
  refine zz_E.ret rfl rfl rfl ?_
  refine zz_E.jf 7 rfl (by rfl) (by decide) rfl ?_
  refine zz_E.n 8 rfl rfl rfl ?_
  refine zz_E.cl (M' := zm_21) 11 rfl rfl (by decide) rfl rfl ⟨rfl, Nat.le_of_ble_eq_true rfl⟩ rfl ?_
  refine zz_E.n 1 rfl rfl rfl ?_
  refine zz_E.jf 4 rfl (by rfl) (by decide) rfl ?_
  refine zz_E.n 5 rfl rfl rfl ?_
  refine zz_E.n 7 rfl rfl rfl ?_
  refine zz_E.kf 10 rfl (by rfl) (by decide) rfl ?_
  refine zz_E.n 11 rfl rfl rfl ?_
  refine zz_E.n 15 rfl rfl rfl ?_
  refine zz_E.ret rfl rfl rfl ?_
  refine zz_E.jf 14 rfl (by rfl) (by decide) rfl ?_
  refine zz_E.n 15 rfl rfl rfl ?_
  refine zz_E.n 18 rfl rfl rfl ?_
  refine zz_E.n 19 rfl rfl rfl ?_
  refine zz_E.n 20 rfl rfl rfl ?_
  refine zz_E.cl (M' := zm_27) 23 rfl rfl (by decide) rfl rfl ⟨rfl, Nat.le_of_ble_eq_true rfl⟩ rfl ?_
  refine zz_E.n 1 rfl rfl rfl ?_
  refine zz_E.n 4 rfl rfl rfl ?_
  refine zz_E.n 5 rfl rfl rfl ?_
  refine zz_E.n 6 rfl rfl rfl ?_
  refine zz_E.n 7 rfl rfl rfl ?_
  refine zz_E.n 10 rfl rfl rfl ?_
  refine zz_E.n 11 rfl rfl rfl ?_
  refine zz_E.n 12 rfl rfl rfl ?_
  refine zz_E.kf 15 rfl (by rfl) (by decide) rfl ?_
  refine zz_E.n 16 rfl rfl rfl ?_
  refine zz_E.n 20 rfl rfl rfl ?_
  refine zz_E.n 21 rfl rfl rfl ?_
  refine zz_E.n 22 rfl rfl rfl ?_
  refine zz_E.n 24 rfl rfl rfl ?_
  refine zz_E.n 26 rfl rfl rfl ?_
  refine zz_E.n 27 rfl rfl rfl ?_
  refine zz_E.n 30 rfl rfl rfl ?_
  refine zz_E.n 31 rfl rfl rfl ?_
  refine zz_E.n 32 rfl rfl rfl ?_
  refine zz_E.kt 72 rfl (by rfl) (by decide) rfl ?_
  refine zz_E.n 73 rfl rfl rfl ?_
  refine zz_E.ret rfl rfl rfl ?_
  refine zz_E.jf 26 rfl (by rfl) (by decide) rfl ?_
  refine zz_E.n 27 rfl rfl rfl ?_
  refine zz_E.n 31 rfl rfl rfl ?_
  refine zz_E.ret rfl rfl rfl ?_
  refine zz_E.n 594 rfl rfl rfl ?_
  refine zz_E.n 595 rfl rfl rfl ?_
  refine zz_E.n 596 rfl rfl rfl ?_
  refine zz_E.n 597 rfl rfl rfl ?_
  refine zz_E.n 598 rfl rfl rfl ?_
  refine zz_E.n 599 rfl rfl rfl ?_
  refine zz_E.n 600 rfl rfl rfl ?_
  refine zz_E.n 601 rfl rfl rfl ?_
  refine zz_E.n 602 rfl rfl rfl ?_
  refine zz_E.n 603 rfl rfl rfl ?_
  refine zz_E.n 604 rfl rfl rfl ?_
  refine zz_E.cl (M' := zm_82) 607 rfl rfl (by decide) rfl rfl ⟨rfl, Nat.le_of_ble_eq_true rfl⟩ rfl ?_
  refine zz_E.n 1 rfl rfl rfl ?_
  refine zz_E.cl (M' := zm_73) 4 rfl rfl (by decide) rfl rfl ⟨rfl, Nat.le_of_ble_eq_true rfl⟩ rfl ?_
  refine zz_E.n 1 rfl rfl rfl ?_
  refine zz_E.jf 4 rfl (by rfl) (by decide) rfl ?_
  refine zz_E.n 5 rfl rfl rfl ?_
  refine zz_E.n 7 rfl rfl rfl ?_
  refine zz_E.kf 10 rfl (by rfl) (by decide) rfl ?_
  refine zz_E.n 11 rfl rfl rfl ?_
  refine zz_E.n 15 rfl rfl rfl ?_
  refine zz_E.ret rfl rfl rfl ?_
  refine zz_E.jf 7 rfl (by rfl) (by decide) rfl ?_
  refine zz_E.n 8 rfl rfl rfl ?_
  refine zz_E.cl (M' := zm_73) 11 rfl rfl (by decide) rfl rfl ⟨rfl, Nat.le_of_ble_eq_true rfl⟩ rfl ?_
  refine zz_E.n 1 rfl rfl rfl ?_
  refine zz_E.jf 4 rfl (by rfl) (by decide) rfl ?_
  refine zz_E.n 5 rfl rfl rfl ?_
  refine zz_E.n 7 rfl rfl rfl ?_
  refine zz_E.kf 10 rfl (by rfl) (by decide) rfl ?_
  refine zz_E.n 11 rfl rfl rfl ?_
  refine zz_E.n 15 rfl rfl rfl ?_
  refine zz_E.ret rfl rfl rfl ?_
  refine zz_E.jt 16 rfl (by rfl) (by decide) rfl ?_
  refine zz_E.n 19 rfl rfl rfl ?_
  refine zz_E.n 20 rfl rfl rfl ?_
  refine zz_E.n 21 rfl rfl rfl ?_
  refine zz_E.n 22 rfl rfl rfl ?_
  refine zz_E.n 25 rfl rfl rfl ?_
  refine zz_E.n 26 rfl rfl rfl ?_
  refine zz_E.n 27 rfl rfl rfl ?_
  refine zz_E.n 29 rfl rfl rfl ?_
  refine zz_E.n 30 rfl rfl rfl ?_
  refine zz_E.n 33 rfl rfl rfl ?_
  refine zz_E.n 34 rfl rfl rfl ?_
  refine zz_E.n 35 rfl rfl rfl ?_
  refine zz_E.jt 48 rfl (by rfl) (by decide) rfl ?_
  refine zz_E.n 49 rfl rfl rfl ?_
  refine zz_E.n 52 rfl rfl rfl ?_
  refine zz_E.n 53 rfl rfl rfl ?_
  refine zz_E.n 54 rfl rfl rfl ?_
  refine zz_E.n 55 rfl rfl rfl ?_
  refine zz_E.n 58 rfl rfl rfl ?_
  refine zz_E.n 60 rfl rfl rfl ?_
  refine zz_E.n 61 rfl rfl rfl ?_
  refine zz_E.kf 64 rfl (by rfl) (by decide) rfl ?_
  refine zz_E.n 65 rfl rfl rfl ?_
  refine zz_E.n 68 rfl rfl rfl ?_
  refine zz_E.n 69 rfl rfl rfl ?_
  refine zz_E.n 70 rfl rfl rfl ?_
  refine zz_E.jt 93 rfl (by rfl) (by decide) rfl ?_
  refine zz_E.n 94 rfl rfl rfl ?_
  refine zz_E.n 98 rfl rfl rfl ?_
  refine zz_E.ret rfl rfl rfl ?_
  refine zz_E.kt 652 rfl (by rfl) (by decide) rfl ?_
  refine zz_E.n 655 rfl rfl rfl ?_
  refine zz_E.n 18 rfl rfl rfl ?_
  refine zz_E.n 19 rfl rfl rfl ?_
  refine zz_E.n 20 rfl rfl rfl ?_
  refine zz_E.n 21 rfl rfl rfl ?_
  refine zz_E.n 23 rfl rfl rfl ?_
  refine zz_E.n 24 rfl rfl rfl ?_
  refine zz_E.kt 658 rfl (by rfl) (by decide) rfl ?_
  refine zz_E.n 659 rfl rfl rfl ?_
  refine zz_E.ret rfl rfl rfl ?_
  exact ⟨rfl, by decide +kernel, by decide +kernel⟩
set_option maxRecDepth 100000 in
set_option maxHeartbeats 8000000 in
theorem zv_k15_6_0 (xs : Nat → Int32) : zz_E zp_P zt_tf zt_fd (zt_X 6 (fun q => if q = 1 then nI 6 else if q = 2 then nI 0 else xs q)) 1000 zm_law 33 zv_L [.int (nI 15)] zv_h zv_Q := by
  refine zz_E.n 579 rfl rfl rfl ?_
  refine zz_E.n 580 rfl rfl rfl ?_
  refine zz_E.n 581 rfl rfl rfl ?_
  refine zz_E.n 582 rfl rfl rfl ?_
  refine zz_E.n 583 rfl rfl rfl ?_
  refine zz_E.n 584 rfl rfl rfl ?_
  refine zz_E.n 585 rfl rfl rfl ?_
  refine zz_E.n 586 rfl rfl rfl ?_
  refine zz_E.n 587 rfl rfl rfl ?_
  refine zz_E.n 588 rfl rfl rfl ?_
  refine zz_E.n 589 rfl rfl rfl ?_
  refine zz_E.n 590 rfl rfl rfl ?_
  refine zz_E.cl (M' := zm_17) 593 rfl rfl (by decide) rfl rfl ⟨rfl, Nat.le_of_ble_eq_true rfl⟩ rfl ?_
  refine zz_E.n 1 rfl rfl rfl ?_
  refine zz_E.cl (M' := zm_21) 4 rfl rfl (by decide) rfl rfl ⟨rfl, Nat.le_of_ble_eq_true rfl⟩ rfl ?_
  refine zz_E.n 1 rfl rfl rfl ?_
  refine zz_E.jf 4 rfl (by rfl) (by decide) rfl ?_
  refine zz_E.n 5 rfl rfl rfl ?_
  refine zz_E.n 7 rfl rfl rfl ?_
  refine zz_E.kf 10 rfl (by rfl) (by decide) rfl ?_
  refine zz_E.n 11 rfl rfl rfl ?_
  refine zz_E.n 15 rfl rfl rfl ?_
  refine zz_E.ret rfl rfl rfl ?_
  refine zz_E.jf 7 rfl (by rfl) (by decide) rfl ?_
  refine zz_E.n 8 rfl rfl rfl ?_
  refine zz_E.cl (M' := zm_21) 11 rfl rfl (by decide) rfl rfl ⟨rfl, Nat.le_of_ble_eq_true rfl⟩ rfl ?_
  refine zz_E.n 1 rfl rfl rfl ?_
  refine zz_E.jf 4 rfl (by rfl) (by decide) rfl ?_
  refine zz_E.n 5 rfl rfl rfl ?_
  refine zz_E.n 7 rfl rfl rfl ?_
  refine zz_E.kf 10 rfl (by rfl) (by decide) rfl ?_
  refine zz_E.n 11 rfl rfl rfl ?_
  refine zz_E.n 15 rfl rfl rfl ?_
  refine zz_E.ret rfl rfl rfl ?_
  refine zz_E.jf 14 rfl (by rfl) (by decide) rfl ?_
  refine zz_E.n 15 rfl rfl rfl ?_
  refine zz_E.n 18 rfl rfl rfl ?_
  refine zz_E.n 19 rfl rfl rfl ?_
  refine zz_E.n 20 rfl rfl rfl ?_
  refine zz_E.cl (M' := zm_27) 23 rfl rfl (by decide) rfl rfl ⟨rfl, Nat.le_of_ble_eq_true rfl⟩ rfl ?_
  refine zz_E.n 1 rfl rfl rfl ?_
  refine zz_E.n 4 rfl rfl rfl ?_
  refine zz_E.n 5 rfl rfl rfl ?_
  refine zz_E.n 6 rfl rfl rfl ?_
  refine zz_E.n 7 rfl rfl rfl ?_
  refine zz_E.n 10 rfl rfl rfl ?_
  refine zz_E.n 11 rfl rfl rfl ?_
  refine zz_E.n 12 rfl rfl rfl ?_
  refine zz_E.kf 15 rfl (by rfl) (by decide) rfl ?_
  refine zz_E.n 16 rfl rfl rfl ?_
  refine zz_E.n 20 rfl rfl rfl ?_
  refine zz_E.n 21 rfl rfl rfl ?_
  refine zz_E.n 22 rfl rfl rfl ?_
  refine zz_E.n 24 rfl rfl rfl ?_
  refine zz_E.n 26 rfl rfl rfl ?_
  refine zz_E.n 27 rfl rfl rfl ?_
  refine zz_E.n 30 rfl rfl rfl ?_
  refine zz_E.n 31 rfl rfl rfl ?_
  refine zz_E.n 32 rfl rfl rfl ?_
  refine zz_E.kt 72 rfl (by rfl) (by decide) rfl ?_
  refine zz_E.n 73 rfl rfl rfl ?_
  refine zz_E.ret rfl rfl rfl ?_
  refine zz_E.jf 26 rfl (by rfl) (by decide) rfl ?_
  refine zz_E.n 27 rfl rfl rfl ?_
  refine zz_E.n 31 rfl rfl rfl ?_
  refine zz_E.ret rfl rfl rfl ?_
  refine zz_E.n 594 rfl rfl rfl ?_
  refine zz_E.n 595 rfl rfl rfl ?_
  refine zz_E.n 596 rfl rfl rfl ?_
  refine zz_E.n 597 rfl rfl rfl ?_
  refine zz_E.n 598 rfl rfl rfl ?_
  refine zz_E.n 599 rfl rfl rfl ?_
  refine zz_E.n 600 rfl rfl rfl ?_
  refine zz_E.n 601 rfl rfl rfl ?_
  refine zz_E.n 602 rfl rfl rfl ?_
  refine zz_E.n 603 rfl rfl rfl ?_
  refine zz_E.n 604 rfl rfl rfl ?_
  refine zz_E.cl (M' := zm_82) 607 rfl rfl (by decide) rfl rfl ⟨rfl, Nat.le_of_ble_eq_true rfl⟩ rfl ?_
  refine zz_E.n 1 rfl rfl rfl ?_
  refine zz_E.cl (M' := zm_73) 4 rfl rfl (by decide) rfl rfl ⟨rfl, Nat.le_of_ble_eq_true rfl⟩ rfl ?_
  refine zz_E.n 1 rfl rfl rfl ?_
  refine zz_E.jf 4 rfl (by rfl) (by decide) rfl ?_
  refine zz_E.n 5 rfl rfl rfl ?_
  refine zz_E.n 7 rfl rfl rfl ?_
  refine zz_E.kf 10 rfl (by rfl) (by decide) rfl ?_
  refine zz_E.n 11 rfl rfl rfl ?_
  refine zz_E.n 15 rfl rfl rfl ?_
  refine zz_E.ret rfl rfl rfl ?_
  refine zz_E.jf 7 rfl (by rfl) (by decide) rfl ?_
  refine zz_E.n 8 rfl rfl rfl ?_
  refine zz_E.cl (M' := zm_73) 11 rfl rfl (by decide) rfl rfl ⟨rfl, Nat.le_of_ble_eq_true rfl⟩ rfl ?_
  refine zz_E.n 1 rfl rfl rfl ?_
  refine zz_E.jf 4 rfl (by rfl) (by decide) rfl ?_
  refine zz_E.n 5 rfl rfl rfl ?_
  refine zz_E.n 7 rfl rfl rfl ?_
  refine zz_E.kf 10 rfl (by rfl) (by decide) rfl ?_
  refine zz_E.n 11 rfl rfl rfl ?_
  refine zz_E.n 15 rfl rfl rfl ?_
  refine zz_E.ret rfl rfl rfl ?_
  refine zz_E.jt 16 rfl (by rfl) (by decide) rfl ?_
  refine zz_E.n 19 rfl rfl rfl ?_
  refine zz_E.n 20 rfl rfl rfl ?_
  refine zz_E.n 21 rfl rfl rfl ?_
  refine zz_E.n 22 rfl rfl rfl ?_
  refine zz_E.n 25 rfl rfl rfl ?_
  refine zz_E.n 26 rfl rfl rfl ?_
  refine zz_E.n 27 rfl rfl rfl ?_
  refine zz_E.n 29 rfl rfl rfl ?_
  refine zz_E.n 30 rfl rfl rfl ?_
  refine zz_E.n 33 rfl rfl rfl ?_
  refine zz_E.n 34 rfl rfl rfl ?_
  refine zz_E.n 35 rfl rfl rfl ?_
  refine zz_E.jt 48 rfl (by rfl) (by decide) rfl ?_
  refine zz_E.n 49 rfl rfl rfl ?_
  refine zz_E.n 52 rfl rfl rfl ?_
  refine zz_E.n 53 rfl rfl rfl ?_
  refine zz_E.n 54 rfl rfl rfl ?_
  refine zz_E.n 55 rfl rfl rfl ?_
  refine zz_E.n 58 rfl rfl rfl ?_
  refine zz_E.n 60 rfl rfl rfl ?_
  refine zz_E.n 61 rfl rfl rfl ?_
  refine zz_E.kf 64 rfl (by rfl) (by decide) rfl ?_
  refine zz_E.n 65 rfl rfl rfl ?_
  refine zz_E.n 68 rfl rfl rfl ?_
  refine zz_E.n 69 rfl rfl rfl ?_
  refine zz_E.n 70 rfl rfl rfl ?_
  refine zz_E.jt 93 rfl (by rfl) (by decide) rfl ?_
  refine zz_E.n 94 rfl rfl rfl ?_
  refine zz_E.n 98 rfl rfl rfl ?_
  refine zz_E.ret rfl rfl rfl ?_
  refine zz_E.kt 652 rfl (by rfl) (by decide) rfl ?_
  refine zz_E.n 655 rfl rfl rfl ?_
  refine zz_E.n 18 rfl rfl rfl ?_
  refine zz_E.n 19 rfl rfl rfl ?_
  refine zz_E.n 20 rfl rfl rfl ?_
  refine zz_E.n 21 rfl rfl rfl ?_
  refine zz_E.n 23 rfl rfl rfl ?_
  refine zz_E.n 24 rfl rfl rfl ?_
  refine zz_E.kt 658 rfl (by rfl) (by decide) rfl ?_
  refine zz_E.n 659 rfl rfl rfl ?_
  refine zz_E.ret rfl rfl rfl ?_
  exact ⟨rfl, by decide +kernel, by decide +kernel⟩
set_option maxRecDepth 100000 in
set_option maxHeartbeats 8000000 in
theorem zv_k15_6_1 (xs : Nat → Int32) : zz_E zp_P zt_tf zt_fd (zt_X 6 (fun q => if q = 1 then nI 6 else if q = 2 then nI 1 else xs q)) 1000 zm_law 33 zv_L [.int (nI 15)] zv_h zv_Q := by
  refine zz_E.n 579 rfl rfl rfl ?_
  refine zz_E.n 580 rfl rfl rfl ?_
  refine zz_E.n 581 rfl rfl rfl ?_
  refine zz_E.n 582 rfl rfl rfl ?_
  refine zz_E.n 583 rfl rfl rfl ?_
  refine zz_E.n 584 rfl rfl rfl ?_
  refine zz_E.n 585 rfl rfl rfl ?_
  refine zz_E.n 586 rfl rfl rfl ?_
  refine zz_E.n 587 rfl rfl rfl ?_
  refine zz_E.n 588 rfl rfl rfl ?_
  refine zz_E.n 589 rfl rfl rfl ?_
  refine zz_E.n 590 rfl rfl rfl ?_
  refine zz_E.cl (M' := zm_17) 593 rfl rfl (by decide) rfl rfl ⟨rfl, Nat.le_of_ble_eq_true rfl⟩ rfl ?_
  refine zz_E.n 1 rfl rfl rfl ?_
  refine zz_E.cl (M' := zm_21) 4 rfl rfl (by decide) rfl rfl ⟨rfl, Nat.le_of_ble_eq_true rfl⟩ rfl ?_
  refine zz_E.n 1 rfl rfl rfl ?_
  refine zz_E.jf 4 rfl (by rfl) (by decide) rfl ?_
  refine zz_E.n 5 rfl rfl rfl ?_
  refine zz_E.n 7 rfl rfl rfl ?_
  refine zz_E.kf 10 rfl (by rfl) (by decide) rfl ?_
  refine zz_E.n 11 rfl rfl rfl ?_
  refine zz_E.n 15 rfl rfl rfl ?_
  refine zz_E.ret rfl rfl rfl ?_
  refine zz_E.jf 7 rfl (by rfl) (by decide) rfl ?_
  refine zz_E.n 8 rfl rfl rfl ?_
  refine zz_E.cl (M' := zm_21) 11 rfl rfl (by decide) rfl rfl ⟨rfl, Nat.le_of_ble_eq_true rfl⟩ rfl ?_
  refine zz_E.n 1 rfl rfl rfl ?_
  refine zz_E.jf 4 rfl (by rfl) (by decide) rfl ?_
  refine zz_E.n 5 rfl rfl rfl ?_
  refine zz_E.n 7 rfl rfl rfl ?_
  refine zz_E.kf 10 rfl (by rfl) (by decide) rfl ?_
  refine zz_E.n 11 rfl rfl rfl ?_
  refine zz_E.n 15 rfl rfl rfl ?_
  refine zz_E.ret rfl rfl rfl ?_
  refine zz_E.jf 14 rfl (by rfl) (by decide) rfl ?_
  refine zz_E.n 15 rfl rfl rfl ?_
  refine zz_E.n 18 rfl rfl rfl ?_
  refine zz_E.n 19 rfl rfl rfl ?_
  refine zz_E.n 20 rfl rfl rfl ?_
  refine zz_E.cl (M' := zm_27) 23 rfl rfl (by decide) rfl rfl ⟨rfl, Nat.le_of_ble_eq_true rfl⟩ rfl ?_
  refine zz_E.n 1 rfl rfl rfl ?_
  refine zz_E.n 4 rfl rfl rfl ?_
  refine zz_E.n 5 rfl rfl rfl ?_
  refine zz_E.n 6 rfl rfl rfl ?_
  refine zz_E.n 7 rfl rfl rfl ?_
  refine zz_E.n 10 rfl rfl rfl ?_
  refine zz_E.n 11 rfl rfl rfl ?_
  refine zz_E.n 12 rfl rfl rfl ?_
  refine zz_E.kf 15 rfl (by rfl) (by decide) rfl ?_
  refine zz_E.n 16 rfl rfl rfl ?_
  refine zz_E.n 20 rfl rfl rfl ?_
  refine zz_E.n 21 rfl rfl rfl ?_
  refine zz_E.n 22 rfl rfl rfl ?_
  refine zz_E.n 24 rfl rfl rfl ?_
  refine zz_E.n 26 rfl rfl rfl ?_
  refine zz_E.n 27 rfl rfl rfl ?_
  refine zz_E.n 30 rfl rfl rfl ?_
  refine zz_E.n 31 rfl rfl rfl ?_
  refine zz_E.n 32 rfl rfl rfl ?_
  refine zz_E.kt 72 rfl (by rfl) (by decide) rfl ?_
  refine zz_E.n 73 rfl rfl rfl ?_
  refine zz_E.ret rfl rfl rfl ?_
  refine zz_E.jf 26 rfl (by rfl) (by decide) rfl ?_
  refine zz_E.n 27 rfl rfl rfl ?_
  refine zz_E.n 31 rfl rfl rfl ?_
  refine zz_E.ret rfl rfl rfl ?_
  refine zz_E.n 594 rfl rfl rfl ?_
  refine zz_E.n 595 rfl rfl rfl ?_
  refine zz_E.n 596 rfl rfl rfl ?_
  refine zz_E.n 597 rfl rfl rfl ?_
  refine zz_E.n 598 rfl rfl rfl ?_
  refine zz_E.n 599 rfl rfl rfl ?_
  refine zz_E.n 600 rfl rfl rfl ?_
  refine zz_E.n 601 rfl rfl rfl ?_
  refine zz_E.n 602 rfl rfl rfl ?_
  refine zz_E.n 603 rfl rfl rfl ?_
  refine zz_E.n 604 rfl rfl rfl ?_
  refine zz_E.cl (M' := zm_82) 607 rfl rfl (by decide) rfl rfl ⟨rfl, Nat.le_of_ble_eq_true rfl⟩ rfl ?_
  refine zz_E.n 1 rfl rfl rfl ?_
  refine zz_E.cl (M' := zm_73) 4 rfl rfl (by decide) rfl rfl ⟨rfl, Nat.le_of_ble_eq_true rfl⟩ rfl ?_
  refine zz_E.n 1 rfl rfl rfl ?_
  refine zz_E.jf 4 rfl (by rfl) (by decide) rfl ?_
  refine zz_E.n 5 rfl rfl rfl ?_
  refine zz_E.n 7 rfl rfl rfl ?_
  refine zz_E.kf 10 rfl (by rfl) (by decide) rfl ?_
  refine zz_E.n 11 rfl rfl rfl ?_
  refine zz_E.n 15 rfl rfl rfl ?_
  refine zz_E.ret rfl rfl rfl ?_
  refine zz_E.jf 7 rfl (by rfl) (by decide) rfl ?_
  refine zz_E.n 8 rfl rfl rfl ?_
  refine zz_E.cl (M' := zm_73) 11 rfl rfl (by decide) rfl rfl ⟨rfl, Nat.le_of_ble_eq_true rfl⟩ rfl ?_
  refine zz_E.n 1 rfl rfl rfl ?_
  refine zz_E.jf 4 rfl (by rfl) (by decide) rfl ?_
  refine zz_E.n 5 rfl rfl rfl ?_
  refine zz_E.n 7 rfl rfl rfl ?_
  refine zz_E.kf 10 rfl (by rfl) (by decide) rfl ?_
  refine zz_E.n 11 rfl rfl rfl ?_
  refine zz_E.n 15 rfl rfl rfl ?_
  refine zz_E.ret rfl rfl rfl ?_
  refine zz_E.jt 16 rfl (by rfl) (by decide) rfl ?_
  refine zz_E.n 19 rfl rfl rfl ?_
  refine zz_E.n 20 rfl rfl rfl ?_
  refine zz_E.n 21 rfl rfl rfl ?_
  refine zz_E.n 22 rfl rfl rfl ?_
  refine zz_E.n 25 rfl rfl rfl ?_
  refine zz_E.n 26 rfl rfl rfl ?_
  refine zz_E.n 27 rfl rfl rfl ?_
  refine zz_E.n 29 rfl rfl rfl ?_
  refine zz_E.n 30 rfl rfl rfl ?_
  refine zz_E.n 33 rfl rfl rfl ?_
  refine zz_E.n 34 rfl rfl rfl ?_
  refine zz_E.n 35 rfl rfl rfl ?_
  refine zz_E.jt 48 rfl (by rfl) (by decide) rfl ?_
  refine zz_E.n 49 rfl rfl rfl ?_
  refine zz_E.n 52 rfl rfl rfl ?_
  refine zz_E.n 53 rfl rfl rfl ?_
  refine zz_E.n 54 rfl rfl rfl ?_
  refine zz_E.n 55 rfl rfl rfl ?_
  refine zz_E.n 58 rfl rfl rfl ?_
  refine zz_E.n 60 rfl rfl rfl ?_
  refine zz_E.n 61 rfl rfl rfl ?_
  refine zz_E.kf 64 rfl (by rfl) (by decide) rfl ?_
  refine zz_E.n 65 rfl rfl rfl ?_
  refine zz_E.n 68 rfl rfl rfl ?_
  refine zz_E.n 69 rfl rfl rfl ?_
  refine zz_E.n 70 rfl rfl rfl ?_
  refine zz_E.jt 93 rfl (by rfl) (by decide) rfl ?_
  refine zz_E.n 94 rfl rfl rfl ?_
  refine zz_E.n 98 rfl rfl rfl ?_
  refine zz_E.ret rfl rfl rfl ?_
  refine zz_E.kt 652 rfl (by rfl) (by decide) rfl ?_
  refine zz_E.n 655 rfl rfl rfl ?_
  refine zz_E.n 18 rfl rfl rfl ?_
  refine zz_E.n 19 rfl rfl rfl ?_
  refine zz_E.n 20 rfl rfl rfl ?_
  refine zz_E.n 21 rfl rfl rfl ?_
  refine zz_E.n 23 rfl rfl rfl ?_
  refine zz_E.n 24 rfl rfl rfl ?_
  refine zz_E.kt 658 rfl (by rfl) (by decide) rfl ?_
  refine zz_E.n 659 rfl rfl rfl ?_
  refine zz_E.ret rfl rfl rfl ?_
  exact ⟨rfl, by decide +kernel, by decide +kernel⟩
set_option maxRecDepth 100000 in
set_option maxHeartbeats 8000000 in
theorem zv_k15_6_2 (xs : Nat → Int32) : zz_E zp_P zt_tf zt_fd (zt_X 6 (fun q => if q = 1 then nI 6 else if q = 2 then nI 2 else xs q)) 1000 zm_law 33 zv_L [.int (nI 15)] zv_h zv_Q := by
  refine zz_E.n 579 rfl rfl rfl ?_
  refine zz_E.n 580 rfl rfl rfl ?_
  refine zz_E.n 581 rfl rfl rfl ?_
  refine zz_E.n 582 rfl rfl rfl ?_
  refine zz_E.n 583 rfl rfl rfl ?_
  refine zz_E.n 584 rfl rfl rfl ?_
  refine zz_E.n 585 rfl rfl rfl ?_
  refine zz_E.n 586 rfl rfl rfl ?_
  refine zz_E.n 587 rfl rfl rfl ?_
  refine zz_E.n 588 rfl rfl rfl ?_
  refine zz_E.n 589 rfl rfl rfl ?_
  refine zz_E.n 590 rfl rfl rfl ?_
  refine zz_E.cl (M' := zm_17) 593 rfl rfl (by decide) rfl rfl ⟨rfl, Nat.le_of_ble_eq_true rfl⟩ rfl ?_
  refine zz_E.n 1 rfl rfl rfl ?_
  refine zz_E.cl (M' := zm_21) 4 rfl rfl (by decide) rfl rfl ⟨rfl, Nat.le_of_ble_eq_true rfl⟩ rfl ?_
  refine zz_E.n 1 rfl rfl rfl ?_
  refine zz_E.jf 4 rfl (by rfl) (by decide) rfl ?_
  refine zz_E.n 5 rfl rfl rfl ?_
  refine zz_E.n 7 rfl rfl rfl ?_
  refine zz_E.kf 10 rfl (by rfl) (by decide) rfl ?_
  refine zz_E.n 11 rfl rfl rfl ?_
  refine zz_E.n 15 rfl rfl rfl ?_
  refine zz_E.ret rfl rfl rfl ?_
  refine zz_E.jf 7 rfl (by rfl) (by decide) rfl ?_
  refine zz_E.n 8 rfl rfl rfl ?_
  refine zz_E.cl (M' := zm_21) 11 rfl rfl (by decide) rfl rfl ⟨rfl, Nat.le_of_ble_eq_true rfl⟩ rfl ?_
  refine zz_E.n 1 rfl rfl rfl ?_
  refine zz_E.jf 4 rfl (by rfl) (by decide) rfl ?_
  refine zz_E.n 5 rfl rfl rfl ?_
  refine zz_E.n 7 rfl rfl rfl ?_
  refine zz_E.kf 10 rfl (by rfl) (by decide) rfl ?_
  refine zz_E.n 11 rfl rfl rfl ?_
  refine zz_E.n 15 rfl rfl rfl ?_
  refine zz_E.ret rfl rfl rfl ?_
  refine zz_E.jf 14 rfl (by rfl) (by decide) rfl ?_
  refine zz_E.n 15 rfl rfl rfl ?_
  refine zz_E.n 18 rfl rfl rfl ?_
  refine zz_E.n 19 rfl rfl rfl ?_
  refine zz_E.n 20 rfl rfl rfl ?_
  refine zz_E.cl (M' := zm_27) 23 rfl rfl (by decide) rfl rfl ⟨rfl, Nat.le_of_ble_eq_true rfl⟩ rfl ?_
  refine zz_E.n 1 rfl rfl rfl ?_
  refine zz_E.n 4 rfl rfl rfl ?_
  refine zz_E.n 5 rfl rfl rfl ?_
  refine zz_E.n 6 rfl rfl rfl ?_
  refine zz_E.n 7 rfl rfl rfl ?_
  refine zz_E.n 10 rfl rfl rfl ?_
  refine zz_E.n 11 rfl rfl rfl ?_
  refine zz_E.n 12 rfl rfl rfl ?_
  refine zz_E.kf 15 rfl (by rfl) (by decide) rfl ?_
  refine zz_E.n 16 rfl rfl rfl ?_
  refine zz_E.n 20 rfl rfl rfl ?_
  refine zz_E.n 21 rfl rfl rfl ?_
  refine zz_E.n 22 rfl rfl rfl ?_
  refine zz_E.n 24 rfl rfl rfl ?_
  refine zz_E.n 26 rfl rfl rfl ?_
  refine zz_E.n 27 rfl rfl rfl ?_
  refine zz_E.n 30 rfl rfl rfl ?_
  refine zz_E.n 31 rfl rfl rfl ?_
  refine zz_E.n 32 rfl rfl rfl ?_
  refine zz_E.kt 72 rfl (by rfl) (by decide) rfl ?_
  refine zz_E.n 73 rfl rfl rfl ?_
  refine zz_E.ret rfl rfl rfl ?_
  refine zz_E.jf 26 rfl (by rfl) (by decide) rfl ?_
  refine zz_E.n 27 rfl rfl rfl ?_
  refine zz_E.n 31 rfl rfl rfl ?_
  refine zz_E.ret rfl rfl rfl ?_
  refine zz_E.n 594 rfl rfl rfl ?_
  refine zz_E.n 595 rfl rfl rfl ?_
  refine zz_E.n 596 rfl rfl rfl ?_
  refine zz_E.n 597 rfl rfl rfl ?_
  refine zz_E.n 598 rfl rfl rfl ?_
  refine zz_E.n 599 rfl rfl rfl ?_
  refine zz_E.n 600 rfl rfl rfl ?_
  refine zz_E.n 601 rfl rfl rfl ?_
  refine zz_E.n 602 rfl rfl rfl ?_
  refine zz_E.n 603 rfl rfl rfl ?_
  refine zz_E.n 604 rfl rfl rfl ?_
  refine zz_E.cl (M' := zm_82) 607 rfl rfl (by decide) rfl rfl ⟨rfl, Nat.le_of_ble_eq_true rfl⟩ rfl ?_
  refine zz_E.n 1 rfl rfl rfl ?_
  refine zz_E.cl (M' := zm_73) 4 rfl rfl (by decide) rfl rfl ⟨rfl, Nat.le_of_ble_eq_true rfl⟩ rfl ?_
  refine zz_E.n 1 rfl rfl rfl ?_
  refine zz_E.jf 4 rfl (by rfl) (by decide) rfl ?_
  refine zz_E.n 5 rfl rfl rfl ?_
  refine zz_E.n 7 rfl rfl rfl ?_
  refine zz_E.kf 10 rfl (by rfl) (by decide) rfl ?_
  refine zz_E.n 11 rfl rfl rfl ?_
  refine zz_E.n 15 rfl rfl rfl ?_
  refine zz_E.ret rfl rfl rfl ?_
  refine zz_E.jf 7 rfl (by rfl) (by decide) rfl ?_
  refine zz_E.n 8 rfl rfl rfl ?_
  refine zz_E.cl (M' := zm_73) 11 rfl rfl (by decide) rfl rfl ⟨rfl, Nat.le_of_ble_eq_true rfl⟩ rfl ?_
  refine zz_E.n 1 rfl rfl rfl ?_
  refine zz_E.jf 4 rfl (by rfl) (by decide) rfl ?_
  refine zz_E.n 5 rfl rfl rfl ?_
  refine zz_E.n 7 rfl rfl rfl ?_
  refine zz_E.kf 10 rfl (by rfl) (by decide) rfl ?_
  refine zz_E.n 11 rfl rfl rfl ?_
  refine zz_E.n 15 rfl rfl rfl ?_
  refine zz_E.ret rfl rfl rfl ?_
  refine zz_E.jt 16 rfl (by rfl) (by decide) rfl ?_
  refine zz_E.n 19 rfl rfl rfl ?_
  refine zz_E.n 20 rfl rfl rfl ?_
  refine zz_E.n 21 rfl rfl rfl ?_
  refine zz_E.n 22 rfl rfl rfl ?_
  refine zz_E.n 25 rfl rfl rfl ?_
  refine zz_E.n 26 rfl rfl rfl ?_
  refine zz_E.n 27 rfl rfl rfl ?_
  refine zz_E.n 29 rfl rfl rfl ?_
  refine zz_E.n 30 rfl rfl rfl ?_
  refine zz_E.n 33 rfl rfl rfl ?_
  refine zz_E.n 34 rfl rfl rfl ?_
  refine zz_E.n 35 rfl rfl rfl ?_
  refine zz_E.jt 48 rfl (by rfl) (by decide) rfl ?_
  refine zz_E.n 49 rfl rfl rfl ?_
  refine zz_E.n 52 rfl rfl rfl ?_
  refine zz_E.n 53 rfl rfl rfl ?_
  refine zz_E.n 54 rfl rfl rfl ?_
  refine zz_E.n 55 rfl rfl rfl ?_
  refine zz_E.n 58 rfl rfl rfl ?_
  refine zz_E.n 60 rfl rfl rfl ?_
  refine zz_E.n 61 rfl rfl rfl ?_
  refine zz_E.kf 64 rfl (by rfl) (by decide) rfl ?_
  refine zz_E.n 65 rfl rfl rfl ?_
  refine zz_E.n 68 rfl rfl rfl ?_
  refine zz_E.n 69 rfl rfl rfl ?_
  refine zz_E.n 70 rfl rfl rfl ?_
  refine zz_E.jt 93 rfl (by rfl) (by decide) rfl ?_
  refine zz_E.n 94 rfl rfl rfl ?_
  refine zz_E.n 98 rfl rfl rfl ?_
  refine zz_E.ret rfl rfl rfl ?_
  refine zz_E.kt 652 rfl (by rfl) (by decide) rfl ?_
  refine zz_E.n 655 rfl rfl rfl ?_
  refine zz_E.n 18 rfl rfl rfl ?_
  refine zz_E.n 19 rfl rfl rfl ?_
  refine zz_E.n 20 rfl rfl rfl ?_
  refine zz_E.n 21 rfl rfl rfl ?_
  refine zz_E.n 23 rfl rfl rfl ?_
  refine zz_E.n 24 rfl rfl rfl ?_
  refine zz_E.kt 658 rfl (by rfl) (by decide) rfl ?_
  refine zz_E.n 659 rfl rfl rfl ?_
  refine zz_E.ret rfl rfl rfl ?_
  exact ⟨rfl, by decide +kernel, by decide +kernel⟩
set_option maxRecDepth 100000 in
set_option maxHeartbeats 8000000 in
theorem zv_k15_6_3 (xs : Nat → Int32) : zz_E zp_P zt_tf zt_fd (zt_X 6 (fun q => if q = 1 then nI 6 else if q = 2 then nI 3 else xs q)) 1000 zm_law 33 zv_L [.int (nI 15)] zv_h zv_Q := by
  refine zz_E.n 579 rfl rfl rfl ?_
  refine zz_E.n 580 rfl rfl rfl ?_
  refine zz_E.n 581 rfl rfl rfl ?_
  refine zz_E.n 582 rfl rfl rfl ?_
  refine zz_E.n 583 rfl rfl rfl ?_
  refine zz_E.n 584 rfl rfl rfl ?_
  refine zz_E.n 585 rfl rfl rfl ?_
  refine zz_E.n 586 rfl rfl rfl ?_
  refine zz_E.n 587 rfl rfl rfl ?_
  refine zz_E.n 588 rfl rfl rfl ?_
  refine zz_E.n 589 rfl rfl rfl ?_
  refine zz_E.n 590 rfl rfl rfl ?_
  refine zz_E.cl (M' := zm_17) 593 rfl rfl (by decide) rfl rfl ⟨rfl, Nat.le_of_ble_eq_true rfl⟩ rfl ?_
  refine zz_E.n 1 rfl rfl rfl ?_
  refine zz_E.cl (M' := zm_21) 4 rfl rfl (by decide) rfl rfl ⟨rfl, Nat.le_of_ble_eq_true rfl⟩ rfl ?_
  refine zz_E.n 1 rfl rfl rfl ?_
  refine zz_E.jf 4 rfl (by rfl) (by decide) rfl ?_
  refine zz_E.n 5 rfl rfl rfl ?_
  refine zz_E.n 7 rfl rfl rfl ?_
  refine zz_E.kf 10 rfl (by rfl) (by decide) rfl ?_
  refine zz_E.n 11 rfl rfl rfl ?_
  refine zz_E.n 15 rfl rfl rfl ?_
  refine zz_E.ret rfl rfl rfl ?_
  refine zz_E.jf 7 rfl (by rfl) (by decide) rfl ?_
  refine zz_E.n 8 rfl rfl rfl ?_
  refine zz_E.cl (M' := zm_21) 11 rfl rfl (by decide) rfl rfl ⟨rfl, Nat.le_of_ble_eq_true rfl⟩ rfl ?_
  refine zz_E.n 1 rfl rfl rfl ?_
  refine zz_E.jf 4 rfl (by rfl) (by decide) rfl ?_
  refine zz_E.n 5 rfl rfl rfl ?_
  refine zz_E.n 7 rfl rfl rfl ?_
  refine zz_E.kf 10 rfl (by rfl) (by decide) rfl ?_
  refine zz_E.n 11 rfl rfl rfl ?_
  refine zz_E.n 15 rfl rfl rfl ?_
  refine zz_E.ret rfl rfl rfl ?_
  refine zz_E.jf 14 rfl (by rfl) (by decide) rfl ?_
  refine zz_E.n 15 rfl rfl rfl ?_
  refine zz_E.n 18 rfl rfl rfl ?_
  refine zz_E.n 19 rfl rfl rfl ?_
  refine zz_E.n 20 rfl rfl rfl ?_
  refine zz_E.cl (M' := zm_27) 23 rfl rfl (by decide) rfl rfl ⟨rfl, Nat.le_of_ble_eq_true rfl⟩ rfl ?_
  refine zz_E.n 1 rfl rfl rfl ?_
  refine zz_E.n 4 rfl rfl rfl ?_
  refine zz_E.n 5 rfl rfl rfl ?_
  refine zz_E.n 6 rfl rfl rfl ?_
  refine zz_E.n 7 rfl rfl rfl ?_
  refine zz_E.n 10 rfl rfl rfl ?_
  refine zz_E.n 11 rfl rfl rfl ?_
  refine zz_E.n 12 rfl rfl rfl ?_
  refine zz_E.kf 15 rfl (by rfl) (by decide) rfl ?_
  refine zz_E.n 16 rfl rfl rfl ?_
  refine zz_E.n 20 rfl rfl rfl ?_
  refine zz_E.n 21 rfl rfl rfl ?_
  refine zz_E.n 22 rfl rfl rfl ?_
  refine zz_E.n 24 rfl rfl rfl ?_
  refine zz_E.n 26 rfl rfl rfl ?_
  refine zz_E.n 27 rfl rfl rfl ?_
  refine zz_E.n 30 rfl rfl rfl ?_
  refine zz_E.n 31 rfl rfl rfl ?_
  refine zz_E.n 32 rfl rfl rfl ?_
  refine zz_E.kt 72 rfl (by rfl) (by decide) rfl ?_
  refine zz_E.n 73 rfl rfl rfl ?_
  refine zz_E.ret rfl rfl rfl ?_
  refine zz_E.jf 26 rfl (by rfl) (by decide) rfl ?_
  refine zz_E.n 27 rfl rfl rfl ?_
  refine zz_E.n 31 rfl rfl rfl ?_
  refine zz_E.ret rfl rfl rfl ?_
  refine zz_E.n 594 rfl rfl rfl ?_
  refine zz_E.n 595 rfl rfl rfl ?_
  refine zz_E.n 596 rfl rfl rfl ?_
  refine zz_E.n 597 rfl rfl rfl ?_
  refine zz_E.n 598 rfl rfl rfl ?_
  refine zz_E.n 599 rfl rfl rfl ?_
  refine zz_E.n 600 rfl rfl rfl ?_
  refine zz_E.n 601 rfl rfl rfl ?_
  refine zz_E.n 602 rfl rfl rfl ?_
  refine zz_E.n 603 rfl rfl rfl ?_
  refine zz_E.n 604 rfl rfl rfl ?_
  refine zz_E.cl (M' := zm_82) 607 rfl rfl (by decide) rfl rfl ⟨rfl, Nat.le_of_ble_eq_true rfl⟩ rfl ?_
  refine zz_E.n 1 rfl rfl rfl ?_
  refine zz_E.cl (M' := zm_73) 4 rfl rfl (by decide) rfl rfl ⟨rfl, Nat.le_of_ble_eq_true rfl⟩ rfl ?_
  refine zz_E.n 1 rfl rfl rfl ?_
  refine zz_E.jf 4 rfl (by rfl) (by decide) rfl ?_
  refine zz_E.n 5 rfl rfl rfl ?_
  refine zz_E.n 7 rfl rfl rfl ?_
  refine zz_E.kf 10 rfl (by rfl) (by decide) rfl ?_
  refine zz_E.n 11 rfl rfl rfl ?_
  refine zz_E.n 15 rfl rfl rfl ?_
  refine zz_E.ret rfl rfl rfl ?_
  refine zz_E.jf 7 rfl (by rfl) (by decide) rfl ?_
  refine zz_E.n 8 rfl rfl rfl ?_
  refine zz_E.cl (M' := zm_73) 11 rfl rfl (by decide) rfl rfl ⟨rfl, Nat.le_of_ble_eq_true rfl⟩ rfl ?_
  refine zz_E.n 1 rfl rfl rfl ?_
  refine zz_E.jf 4 rfl (by rfl) (by decide) rfl ?_
  refine zz_E.n 5 rfl rfl rfl ?_
  refine zz_E.n 7 rfl rfl rfl ?_
  refine zz_E.kf 10 rfl (by rfl) (by decide) rfl ?_
  refine zz_E.n 11 rfl rfl rfl ?_
  refine zz_E.n 15 rfl rfl rfl ?_
  refine zz_E.ret rfl rfl rfl ?_
  refine zz_E.jt 16 rfl (by rfl) (by decide) rfl ?_
  refine zz_E.n 19 rfl rfl rfl ?_
  refine zz_E.n 20 rfl rfl rfl ?_
  refine zz_E.n 21 rfl rfl rfl ?_
  refine zz_E.n 22 rfl rfl rfl ?_
  refine zz_E.n 25 rfl rfl rfl ?_
  refine zz_E.n 26 rfl rfl rfl ?_
  refine zz_E.n 27 rfl rfl rfl ?_
  refine zz_E.n 29 rfl rfl rfl ?_
  refine zz_E.n 30 rfl rfl rfl ?_
  refine zz_E.n 33 rfl rfl rfl ?_
  refine zz_E.n 34 rfl rfl rfl ?_
  refine zz_E.n 35 rfl rfl rfl ?_
  refine zz_E.jt 48 rfl (by rfl) (by decide) rfl ?_
  refine zz_E.n 49 rfl rfl rfl ?_
  refine zz_E.n 52 rfl rfl rfl ?_
  refine zz_E.n 53 rfl rfl rfl ?_
  refine zz_E.n 54 rfl rfl rfl ?_
  refine zz_E.n 55 rfl rfl rfl ?_
  refine zz_E.n 58 rfl rfl rfl ?_
  refine zz_E.n 60 rfl rfl rfl ?_
  refine zz_E.n 61 rfl rfl rfl ?_
  refine zz_E.kf 64 rfl (by rfl) (by decide) rfl ?_
  refine zz_E.n 65 rfl rfl rfl ?_
  refine zz_E.n 68 rfl rfl rfl ?_
  refine zz_E.n 69 rfl rfl rfl ?_
  refine zz_E.n 70 rfl rfl rfl ?_
  refine zz_E.jt 93 rfl (by rfl) (by decide) rfl ?_
  refine zz_E.n 94 rfl rfl rfl ?_
  refine zz_E.n 98 rfl rfl rfl ?_
  refine zz_E.ret rfl rfl rfl ?_
  refine zz_E.kt 652 rfl (by rfl) (by decide) rfl ?_
  refine zz_E.n 655 rfl rfl rfl ?_
  refine zz_E.n 18 rfl rfl rfl ?_
  refine zz_E.n 19 rfl rfl rfl ?_
  refine zz_E.n 20 rfl rfl rfl ?_
  refine zz_E.n 21 rfl rfl rfl ?_
  refine zz_E.n 23 rfl rfl rfl ?_
  refine zz_E.n 24 rfl rfl rfl ?_
  refine zz_E.kt 658 rfl (by rfl) (by decide) rfl ?_
  refine zz_E.n 659 rfl rfl rfl ?_
  refine zz_E.ret rfl rfl rfl ?_
  exact ⟨rfl, by decide +kernel, by decide +kernel⟩
set_option maxRecDepth 100000 in
set_option maxHeartbeats 8000000 in
theorem zv_k15_6_4 (xs : Nat → Int32) : zz_E zp_P zt_tf zt_fd (zt_X 6 (fun q => if q = 1 then nI 6 else if q = 2 then nI 4 else xs q)) 1000 zm_law 33 zv_L [.int (nI 15)] zv_h zv_Q := by
  refine zz_E.n 579 rfl rfl rfl ?_
  refine zz_E.n 580 rfl rfl rfl ?_
  refine zz_E.n 581 rfl rfl rfl ?_
  refine zz_E.n 582 rfl rfl rfl ?_
  refine zz_E.n 583 rfl rfl rfl ?_
  refine zz_E.n 584 rfl rfl rfl ?_
  refine zz_E.n 585 rfl rfl rfl ?_
  refine zz_E.n 586 rfl rfl rfl ?_
  refine zz_E.n 587 rfl rfl rfl ?_
  refine zz_E.n 588 rfl rfl rfl ?_
  refine zz_E.n 589 rfl rfl rfl ?_
  refine zz_E.n 590 rfl rfl rfl ?_
  refine zz_E.cl (M' := zm_17) 593 rfl rfl (by decide) rfl rfl ⟨rfl, Nat.le_of_ble_eq_true rfl⟩ rfl ?_
  refine zz_E.n 1 rfl rfl rfl ?_
  refine zz_E.cl (M' := zm_21) 4 rfl rfl (by decide) rfl rfl ⟨rfl, Nat.le_of_ble_eq_true rfl⟩ rfl ?_
  refine zz_E.n 1 rfl rfl rfl ?_
  refine zz_E.jf 4 rfl (by rfl) (by decide) rfl ?_
  refine zz_E.n 5 rfl rfl rfl ?_
  refine zz_E.n 7 rfl rfl rfl ?_
  refine zz_E.kf 10 rfl (by rfl) (by decide) rfl ?_
  refine zz_E.n 11 rfl rfl rfl ?_
  refine zz_E.n 15 rfl rfl rfl ?_
  refine zz_E.ret rfl rfl rfl ?_
  refine zz_E.jf 7 rfl (by rfl) (by decide) rfl ?_
  refine zz_E.n 8 rfl rfl rfl ?_
  refine zz_E.cl (M' := zm_21) 11 rfl rfl (by decide) rfl rfl ⟨rfl, Nat.le_of_ble_eq_true rfl⟩ rfl ?_
  refine zz_E.n 1 rfl rfl rfl ?_
  refine zz_E.jf 4 rfl (by rfl) (by decide) rfl ?_
  refine zz_E.n 5 rfl rfl rfl ?_
  refine zz_E.n 7 rfl rfl rfl ?_
  refine zz_E.kf 10 rfl (by rfl) (by decide) rfl ?_
  refine zz_E.n 11 rfl rfl rfl ?_
  refine zz_E.n 15 rfl rfl rfl ?_
  refine zz_E.ret rfl rfl rfl ?_
  refine zz_E.jf 14 rfl (by rfl) (by decide) rfl ?_
  refine zz_E.n 15 rfl rfl rfl ?_
  refine zz_E.n 18 rfl rfl rfl ?_
  refine zz_E.n 19 rfl rfl rfl ?_
  refine zz_E.n 20 rfl rfl rfl ?_
  refine zz_E.cl (M' := zm_27) 23 rfl rfl (by decide) rfl rfl ⟨rfl, Nat.le_of_ble_eq_true rfl⟩ rfl ?_
  refine zz_E.n 1 rfl rfl rfl ?_
  refine zz_E.n 4 rfl rfl rfl ?_
  refine zz_E.n 5 rfl rfl rfl ?_
  refine zz_E.n 6 rfl rfl rfl ?_
  refine zz_E.n 7 rfl rfl rfl ?_
  refine zz_E.n 10 rfl rfl rfl ?_
  refine zz_E.n 11 rfl rfl rfl ?_
  refine zz_E.n 12 rfl rfl rfl ?_
  refine zz_E.kf 15 rfl (by rfl) (by decide) rfl ?_
  refine zz_E.n 16 rfl rfl rfl ?_
  refine zz_E.n 20 rfl rfl rfl ?_
  refine zz_E.n 21 rfl rfl rfl ?_
  refine zz_E.n 22 rfl rfl rfl ?_
  refine zz_E.n 24 rfl rfl rfl ?_
  refine zz_E.n 26 rfl rfl rfl ?_
  refine zz_E.n 27 rfl rfl rfl ?_
  refine zz_E.n 30 rfl rfl rfl ?_
  refine zz_E.n 31 rfl rfl rfl ?_
  refine zz_E.n 32 rfl rfl rfl ?_
  refine zz_E.kt 72 rfl (by rfl) (by decide) rfl ?_
  refine zz_E.n 73 rfl rfl rfl ?_
  refine zz_E.ret rfl rfl rfl ?_
  refine zz_E.jf 26 rfl (by rfl) (by decide) rfl ?_
  refine zz_E.n 27 rfl rfl rfl ?_
  refine zz_E.n 31 rfl rfl rfl ?_
  refine zz_E.ret rfl rfl rfl ?_
  refine zz_E.n 594 rfl rfl rfl ?_
  refine zz_E.n 595 rfl rfl rfl ?_
  refine zz_E.n 596 rfl rfl rfl ?_
  refine zz_E.n 597 rfl rfl rfl ?_
  refine zz_E.n 598 rfl rfl rfl ?_
  refine zz_E.n 599 rfl rfl rfl ?_
  refine zz_E.n 600 rfl rfl rfl ?_
  refine zz_E.n 601 rfl rfl rfl ?_
  refine zz_E.n 602 rfl rfl rfl ?_
  refine zz_E.n 603 rfl rfl rfl ?_
  refine zz_E.n 604 rfl rfl rfl ?_
  refine zz_E.cl (M' := zm_82) 607 rfl rfl (by decide) rfl rfl ⟨rfl, Nat.le_of_ble_eq_true rfl⟩ rfl ?_
  refine zz_E.n 1 rfl rfl rfl ?_
  refine zz_E.cl (M' := zm_73) 4 rfl rfl (by decide) rfl rfl ⟨rfl, Nat.le_of_ble_eq_true rfl⟩ rfl ?_
  refine zz_E.n 1 rfl rfl rfl ?_
  refine zz_E.jf 4 rfl (by rfl) (by decide) rfl ?_
  refine zz_E.n 5 rfl rfl rfl ?_
  refine zz_E.n 7 rfl rfl rfl ?_
  refine zz_E.kf 10 rfl (by rfl) (by decide) rfl ?_
  refine zz_E.n 11 rfl rfl rfl ?_
  refine zz_E.n 15 rfl rfl rfl ?_
  refine zz_E.ret rfl rfl rfl ?_
  refine zz_E.jf 7 rfl (by rfl) (by decide) rfl ?_
  refine zz_E.n 8 rfl rfl rfl ?_
  refine zz_E.cl (M' := zm_73) 11 rfl rfl (by decide) rfl rfl ⟨rfl, Nat.le_of_ble_eq_true rfl⟩ rfl ?_
  refine zz_E.n 1 rfl rfl rfl ?_
  refine zz_E.jf 4 rfl (by rfl) (by decide) rfl ?_
  refine zz_E.n 5 rfl rfl rfl ?_
  refine zz_E.n 7 rfl rfl rfl ?_
  refine zz_E.kf 10 rfl (by rfl) (by decide) rfl ?_
  refine zz_E.n 11 rfl rfl rfl ?_
  refine zz_E.n 15 rfl rfl rfl ?_
  refine zz_E.ret rfl rfl rfl ?_
  refine zz_E.jt 16 rfl (by rfl) (by decide) rfl ?_
  refine zz_E.n 19 rfl rfl rfl ?_
  refine zz_E.n 20 rfl rfl rfl ?_
  refine zz_E.n 21 rfl rfl rfl ?_
  refine zz_E.n 22 rfl rfl rfl ?_
  refine zz_E.n 25 rfl rfl rfl ?_
  refine zz_E.n 26 rfl rfl rfl ?_
  refine zz_E.n 27 rfl rfl rfl ?_
  refine zz_E.n 29 rfl rfl rfl ?_
  refine zz_E.n 30 rfl rfl rfl ?_
  refine zz_E.n 33 rfl rfl rfl ?_
  refine zz_E.n 34 rfl rfl rfl ?_
  refine zz_E.n 35 rfl rfl rfl ?_
  refine zz_E.jt 48 rfl (by rfl) (by decide) rfl ?_
  refine zz_E.n 49 rfl rfl rfl ?_
  refine zz_E.n 52 rfl rfl rfl ?_
  refine zz_E.n 53 rfl rfl rfl ?_
  refine zz_E.n 54 rfl rfl rfl ?_
  refine zz_E.n 55 rfl rfl rfl ?_
  refine zz_E.n 58 rfl rfl rfl ?_
  refine zz_E.n 60 rfl rfl rfl ?_
  refine zz_E.n 61 rfl rfl rfl ?_
  refine zz_E.kf 64 rfl (by rfl) (by decide) rfl ?_
  refine zz_E.n 65 rfl rfl rfl ?_
  refine zz_E.n 68 rfl rfl rfl ?_
  refine zz_E.n 69 rfl rfl rfl ?_
  refine zz_E.n 70 rfl rfl rfl ?_
  refine zz_E.jt 93 rfl (by rfl) (by decide) rfl ?_
  refine zz_E.n 94 rfl rfl rfl ?_
  refine zz_E.n 98 rfl rfl rfl ?_
  refine zz_E.ret rfl rfl rfl ?_
  refine zz_E.kt 652 rfl (by rfl) (by decide) rfl ?_
  refine zz_E.n 655 rfl rfl rfl ?_
  refine zz_E.n 18 rfl rfl rfl ?_
  refine zz_E.n 19 rfl rfl rfl ?_
  refine zz_E.n 20 rfl rfl rfl ?_
  refine zz_E.n 21 rfl rfl rfl ?_
  refine zz_E.n 23 rfl rfl rfl ?_
  refine zz_E.n 24 rfl rfl rfl ?_
  refine zz_E.kt 658 rfl (by rfl) (by decide) rfl ?_
  refine zz_E.n 659 rfl rfl rfl ?_
  refine zz_E.ret rfl rfl rfl ?_
  exact ⟨rfl, by decide +kernel, by decide +kernel⟩
set_option maxRecDepth 100000 in
set_option maxHeartbeats 8000000 in
theorem zv_k15_6_5 (xs : Nat → Int32) : zz_E zp_P zt_tf zt_fd (zt_X 6 (fun q => if q = 1 then nI 6 else if q = 2 then nI 5 else xs q)) 1000 zm_law 33 zv_L [.int (nI 15)] zv_h zv_Q := by
  refine zz_E.n 579 rfl rfl rfl ?_
  refine zz_E.n 580 rfl rfl rfl ?_
  refine zz_E.n 581 rfl rfl rfl ?_
  refine zz_E.n 582 rfl rfl rfl ?_
  refine zz_E.n 583 rfl rfl rfl ?_
  refine zz_E.n 584 rfl rfl rfl ?_
  refine zz_E.n 585 rfl rfl rfl ?_
  refine zz_E.n 586 rfl rfl rfl ?_
  refine zz_E.n 587 rfl rfl rfl ?_
  refine zz_E.n 588 rfl rfl rfl ?_
  refine zz_E.n 589 rfl rfl rfl ?_
  refine zz_E.n 590 rfl rfl rfl ?_
  refine zz_E.cl (M' := zm_17) 593 rfl rfl (by decide) rfl rfl ⟨rfl, Nat.le_of_ble_eq_true rfl⟩ rfl ?_
  refine zz_E.n 1 rfl rfl rfl ?_
  refine zz_E.cl (M' := zm_21) 4 rfl rfl (by decide) rfl rfl ⟨rfl, Nat.le_of_ble_eq_true rfl⟩ rfl ?_
  refine zz_E.n 1 rfl rfl rfl ?_
  refine zz_E.jf 4 rfl (by rfl) (by decide) rfl ?_
  refine zz_E.n 5 rfl rfl rfl ?_
  refine zz_E.n 7 rfl rfl rfl ?_
  refine zz_E.kf 10 rfl (by rfl) (by decide) rfl ?_
  refine zz_E.n 11 rfl rfl rfl ?_
  refine zz_E.n 15 rfl rfl rfl ?_
  refine zz_E.ret rfl rfl rfl ?_
  refine zz_E.jf 7 rfl (by rfl) (by decide) rfl ?_
  refine zz_E.n 8 rfl rfl rfl ?_
  refine zz_E.cl (M' := zm_21) 11 rfl rfl (by decide) rfl rfl ⟨rfl, Nat.le_of_ble_eq_true rfl⟩ rfl ?_
  refine zz_E.n 1 rfl rfl rfl ?_
  refine zz_E.jf 4 rfl (by rfl) (by decide) rfl ?_
  refine zz_E.n 5 rfl rfl rfl ?_
  refine zz_E.n 7 rfl rfl rfl ?_
  refine zz_E.kf 10 rfl (by rfl) (by decide) rfl ?_
  refine zz_E.n 11 rfl rfl rfl ?_
  refine zz_E.n 15 rfl rfl rfl ?_
  refine zz_E.ret rfl rfl rfl ?_
  refine zz_E.jf 14 rfl (by rfl) (by decide) rfl ?_
  refine zz_E.n 15 rfl rfl rfl ?_
  refine zz_E.n 18 rfl rfl rfl ?_
  refine zz_E.n 19 rfl rfl rfl ?_
  refine zz_E.n 20 rfl rfl rfl ?_
  refine zz_E.cl (M' := zm_27) 23 rfl rfl (by decide) rfl rfl ⟨rfl, Nat.le_of_ble_eq_true rfl⟩ rfl ?_
  refine zz_E.n 1 rfl rfl rfl ?_
  refine zz_E.n 4 rfl rfl rfl ?_
  refine zz_E.n 5 rfl rfl rfl ?_
  refine zz_E.n 6 rfl rfl rfl ?_
  refine zz_E.n 7 rfl rfl rfl ?_
  refine zz_E.n 10 rfl rfl rfl ?_
  refine zz_E.n 11 rfl rfl rfl ?_
  refine zz_E.n 12 rfl rfl rfl ?_
  refine zz_E.kf 15 rfl (by rfl) (by decide) rfl ?_
  refine zz_E.n 16 rfl rfl rfl ?_
  refine zz_E.n 20 rfl rfl rfl ?_
  refine zz_E.n 21 rfl rfl rfl ?_
  refine zz_E.n 22 rfl rfl rfl ?_
  refine zz_E.n 24 rfl rfl rfl ?_
  refine zz_E.n 26 rfl rfl rfl ?_
  refine zz_E.n 27 rfl rfl rfl ?_
  refine zz_E.n 30 rfl rfl rfl ?_
  refine zz_E.n 31 rfl rfl rfl ?_
  refine zz_E.n 32 rfl rfl rfl ?_
  refine zz_E.kt 72 rfl (by rfl) (by decide) rfl ?_
  refine zz_E.n 73 rfl rfl rfl ?_
  refine zz_E.ret rfl rfl rfl ?_
  refine zz_E.jf 26 rfl (by rfl) (by decide) rfl ?_
  refine zz_E.n 27 rfl rfl rfl ?_
  refine zz_E.n 31 rfl rfl rfl ?_
  refine zz_E.ret rfl rfl rfl ?_
  refine zz_E.n 594 rfl rfl rfl ?_
  refine zz_E.n 595 rfl rfl rfl ?_
  refine zz_E.n 596 rfl rfl rfl ?_
  refine zz_E.n 597 rfl rfl rfl ?_
  refine zz_E.n 598 rfl rfl rfl ?_
  refine zz_E.n 599 rfl rfl rfl ?_
  refine zz_E.n 600 rfl rfl rfl ?_
  refine zz_E.n 601 rfl rfl rfl ?_
  refine zz_E.n 602 rfl rfl rfl ?_
  refine zz_E.n 603 rfl rfl rfl ?_
  refine zz_E.n 604 rfl rfl rfl ?_
  refine zz_E.cl (M' := zm_82) 607 rfl rfl (by decide) rfl rfl ⟨rfl, Nat.le_of_ble_eq_true rfl⟩ rfl ?_
  refine zz_E.n 1 rfl rfl rfl ?_
  refine zz_E.cl (M' := zm_73) 4 rfl rfl (by decide) rfl rfl ⟨rfl, Nat.le_of_ble_eq_true rfl⟩ rfl ?_
  refine zz_E.n 1 rfl rfl rfl ?_
  refine zz_E.jf 4 rfl (by rfl) (by decide) rfl ?_
  refine zz_E.n 5 rfl rfl rfl ?_
  refine zz_E.n 7 rfl rfl rfl ?_
  refine zz_E.kf 10 rfl (by rfl) (by decide) rfl ?_
  refine zz_E.n 11 rfl rfl rfl ?_
  refine zz_E.n 15 rfl rfl rfl ?_
  refine zz_E.ret rfl rfl rfl ?_
  refine zz_E.jf 7 rfl (by rfl) (by decide) rfl ?_
  refine zz_E.n 8 rfl rfl rfl ?_
  refine zz_E.cl (M' := zm_73) 11 rfl rfl (by decide) rfl rfl ⟨rfl, Nat.le_of_ble_eq_true rfl⟩ rfl ?_
  refine zz_E.n 1 rfl rfl rfl ?_
  refine zz_E.jf 4 rfl (by rfl) (by decide) rfl ?_
  refine zz_E.n 5 rfl rfl rfl ?_
  refine zz_E.n 7 rfl rfl rfl ?_
  refine zz_E.kf 10 rfl (by rfl) (by decide) rfl ?_
  refine zz_E.n 11 rfl rfl rfl ?_
  refine zz_E.n 15 rfl rfl rfl ?_
  refine zz_E.ret rfl rfl rfl ?_
  refine zz_E.jt 16 rfl (by rfl) (by decide) rfl ?_
  refine zz_E.n 19 rfl rfl rfl ?_
  refine zz_E.n 20 rfl rfl rfl ?_
  refine zz_E.n 21 rfl rfl rfl ?_
  refine zz_E.n 22 rfl rfl rfl ?_
  refine zz_E.n 25 rfl rfl rfl ?_
  refine zz_E.n 26 rfl rfl rfl ?_
  refine zz_E.n 27 rfl rfl rfl ?_
  refine zz_E.n 29 rfl rfl rfl ?_
  refine zz_E.n 30 rfl rfl rfl ?_
  refine zz_E.n 33 rfl rfl rfl ?_
  refine zz_E.n 34 rfl rfl rfl ?_
  refine zz_E.n 35 rfl rfl rfl ?_
  refine zz_E.jt 48 rfl (by rfl) (by decide) rfl ?_
  refine zz_E.n 49 rfl rfl rfl ?_
  refine zz_E.n 52 rfl rfl rfl ?_
  refine zz_E.n 53 rfl rfl rfl ?_
  refine zz_E.n 54 rfl rfl rfl ?_
  refine zz_E.n 55 rfl rfl rfl ?_
  refine zz_E.n 58 rfl rfl rfl ?_
  refine zz_E.n 60 rfl rfl rfl ?_
  refine zz_E.n 61 rfl rfl rfl ?_
  refine zz_E.kf 64 rfl (by rfl) (by decide) rfl ?_
  refine zz_E.n 65 rfl rfl rfl ?_
  refine zz_E.n 68 rfl rfl rfl ?_
  refine zz_E.n 69 rfl rfl rfl ?_
  refine zz_E.n 70 rfl rfl rfl ?_
  refine zz_E.jt 93 rfl (by rfl) (by decide) rfl ?_
  refine zz_E.n 94 rfl rfl rfl ?_
  refine zz_E.n 98 rfl rfl rfl ?_
  refine zz_E.ret rfl rfl rfl ?_
  refine zz_E.kt 652 rfl (by rfl) (by decide) rfl ?_
  refine zz_E.n 655 rfl rfl rfl ?_
  refine zz_E.n 18 rfl rfl rfl ?_
  refine zz_E.n 19 rfl rfl rfl ?_
  refine zz_E.n 20 rfl rfl rfl ?_
  refine zz_E.n 21 rfl rfl rfl ?_
  refine zz_E.n 23 rfl rfl rfl ?_
  refine zz_E.n 24 rfl rfl rfl ?_
  refine zz_E.kt 658 rfl (by rfl) (by decide) rfl ?_
  refine zz_E.n 659 rfl rfl rfl ?_
  refine zz_E.ret rfl rfl rfl ?_
  exact ⟨rfl, by decide +kernel, by decide +kernel⟩
set_option maxRecDepth 100000 in
set_option maxHeartbeats 8000000 in
theorem zv_k15_6_6 (xs : Nat → Int32) : zz_E zp_P zt_tf zt_fd (zt_X 6 (fun q => if q = 1 then nI 6 else if q = 2 then nI 6 else xs q)) 1000 zm_law 33 zv_L [.int (nI 15)] zv_h zv_Q := by
  refine zz_E.n 579 rfl rfl rfl ?_
  refine zz_E.n 580 rfl rfl rfl ?_
  refine zz_E.n 581 rfl rfl rfl ?_
  refine zz_E.n 582 rfl rfl rfl ?_
  refine zz_E.n 583 rfl rfl rfl ?_
  refine zz_E.n 584 rfl rfl rfl ?_
  refine zz_E.n 585 rfl rfl rfl ?_
  refine zz_E.n 586 rfl rfl rfl ?_
  refine zz_E.n 587 rfl rfl rfl ?_
  refine zz_E.n 588 rfl rfl rfl ?_
  refine zz_E.n 589 rfl rfl rfl ?_
  refine zz_E.n 590 rfl rfl rfl ?_
  refine zz_E.cl (M' := zm_17) 593 rfl rfl (by decide) rfl rfl ⟨rfl, Nat.le_of_ble_eq_true rfl⟩ rfl ?_
  refine zz_E.n 1 rfl rfl rfl ?_
  refine zz_E.cl (M' := zm_21) 4 rfl rfl (by decide) rfl rfl ⟨rfl, Nat.le_of_ble_eq_true rfl⟩ rfl ?_
  refine zz_E.n 1 rfl rfl rfl ?_
  refine zz_E.jf 4 rfl (by rfl) (by decide) rfl ?_
  refine zz_E.n 5 rfl rfl rfl ?_
  refine zz_E.n 7 rfl rfl rfl ?_
  refine zz_E.kf 10 rfl (by rfl) (by decide) rfl ?_
  refine zz_E.n 11 rfl rfl rfl ?_
  refine zz_E.n 15 rfl rfl rfl ?_
  refine zz_E.ret rfl rfl rfl ?_
  refine zz_E.jf 7 rfl (by rfl) (by decide) rfl ?_
  refine zz_E.n 8 rfl rfl rfl ?_
  refine zz_E.cl (M' := zm_21) 11 rfl rfl (by decide) rfl rfl ⟨rfl, Nat.le_of_ble_eq_true rfl⟩ rfl ?_
  refine zz_E.n 1 rfl rfl rfl ?_
  refine zz_E.jf 4 rfl (by rfl) (by decide) rfl ?_
  refine zz_E.n 5 rfl rfl rfl ?_
  refine zz_E.n 7 rfl rfl rfl ?_
  refine zz_E.kf 10 rfl (by rfl) (by decide) rfl ?_
  refine zz_E.n 11 rfl rfl rfl ?_
  refine zz_E.n 15 rfl rfl rfl ?_
  refine zz_E.ret rfl rfl rfl ?_
  refine zz_E.jf 14 rfl (by rfl) (by decide) rfl ?_
  refine zz_E.n 15 rfl rfl rfl ?_
  refine zz_E.n 18 rfl rfl rfl ?_
  refine zz_E.n 19 rfl rfl rfl ?_
  refine zz_E.n 20 rfl rfl rfl ?_
  refine zz_E.cl (M' := zm_27) 23 rfl rfl (by decide) rfl rfl ⟨rfl, Nat.le_of_ble_eq_true rfl⟩ rfl ?_
  refine zz_E.n 1 rfl rfl rfl ?_
  refine zz_E.n 4 rfl rfl rfl ?_
  refine zz_E.n 5 rfl rfl rfl ?_
  refine zz_E.n 6 rfl rfl rfl ?_
  refine zz_E.n 7 rfl rfl rfl ?_
  refine zz_E.n 10 rfl rfl rfl ?_
  refine zz_E.n 11 rfl rfl rfl ?_
  refine zz_E.n 12 rfl rfl rfl ?_
  refine zz_E.kf 15 rfl (by rfl) (by decide) rfl ?_
  refine zz_E.n 16 rfl rfl rfl ?_
  refine zz_E.n 20 rfl rfl rfl ?_
  refine zz_E.n 21 rfl rfl rfl ?_
  refine zz_E.n 22 rfl rfl rfl ?_
  refine zz_E.n 24 rfl rfl rfl ?_
  refine zz_E.n 26 rfl rfl rfl ?_
  refine zz_E.n 27 rfl rfl rfl ?_
  refine zz_E.n 30 rfl rfl rfl ?_
  refine zz_E.n 31 rfl rfl rfl ?_
  refine zz_E.n 32 rfl rfl rfl ?_
  refine zz_E.kt 72 rfl (by rfl) (by decide) rfl ?_
  refine zz_E.n 73 rfl rfl rfl ?_
  refine zz_E.ret rfl rfl rfl ?_
  refine zz_E.jf 26 rfl (by rfl) (by decide) rfl ?_
  refine zz_E.n 27 rfl rfl rfl ?_
  refine zz_E.n 31 rfl rfl rfl ?_
  refine zz_E.ret rfl rfl rfl ?_
  refine zz_E.n 594 rfl rfl rfl ?_
  refine zz_E.n 595 rfl rfl rfl ?_
  refine zz_E.n 596 rfl rfl rfl ?_
  refine zz_E.n 597 rfl rfl rfl ?_
  refine zz_E.n 598 rfl rfl rfl ?_
  refine zz_E.n 599 rfl rfl rfl ?_
  refine zz_E.n 600 rfl rfl rfl ?_
  refine zz_E.n 601 rfl rfl rfl ?_
  refine zz_E.n 602 rfl rfl rfl ?_
  refine zz_E.n 603 rfl rfl rfl ?_
  refine zz_E.n 604 rfl rfl rfl ?_
  refine zz_E.cl (M' := zm_82) 607 rfl rfl (by decide) rfl rfl ⟨rfl, Nat.le_of_ble_eq_true rfl⟩ rfl ?_
  refine zz_E.n 1 rfl rfl rfl ?_
  refine zz_E.cl (M' := zm_73) 4 rfl rfl (by decide) rfl rfl ⟨rfl, Nat.le_of_ble_eq_true rfl⟩ rfl ?_
  refine zz_E.n 1 rfl rfl rfl ?_
  refine zz_E.jf 4 rfl (by rfl) (by decide) rfl ?_
  refine zz_E.n 5 rfl rfl rfl ?_
  refine zz_E.n 7 rfl rfl rfl ?_
  refine zz_E.kf 10 rfl (by rfl) (by decide) rfl ?_
  refine zz_E.n 11 rfl rfl rfl ?_
  refine zz_E.n 15 rfl rfl rfl ?_
  refine zz_E.ret rfl rfl rfl ?_
  refine zz_E.jf 7 rfl (by rfl) (by decide) rfl ?_
  refine zz_E.n 8 rfl rfl rfl ?_
  refine zz_E.cl (M' := zm_73) 11 rfl rfl (by decide) rfl rfl ⟨rfl, Nat.le_of_ble_eq_true rfl⟩ rfl ?_
  refine zz_E.n 1 rfl rfl rfl ?_
  refine zz_E.jf 4 rfl (by rfl) (by decide) rfl ?_
  refine zz_E.n 5 rfl rfl rfl ?_
  refine zz_E.n 7 rfl rfl rfl ?_
  refine zz_E.kf 10 rfl (by rfl) (by decide) rfl ?_
  refine zz_E.n 11 rfl rfl rfl ?_
  refine zz_E.n 15 rfl rfl rfl ?_
  refine zz_E.ret rfl rfl rfl ?_
  refine zz_E.jt 16 rfl (by rfl) (by decide) rfl ?_
  refine zz_E.n 19 rfl rfl rfl ?_
  refine zz_E.n 20 rfl rfl rfl ?_
  refine zz_E.n 21 rfl rfl rfl ?_
  refine zz_E.n 22 rfl rfl rfl ?_
  refine zz_E.n 25 rfl rfl rfl ?_
  refine zz_E.n 26 rfl rfl rfl ?_
  refine zz_E.n 27 rfl rfl rfl ?_
  refine zz_E.n 29 rfl rfl rfl ?_
  refine zz_E.n 30 rfl rfl rfl ?_
  refine zz_E.n 33 rfl rfl rfl ?_
  refine zz_E.n 34 rfl rfl rfl ?_
  refine zz_E.n 35 rfl rfl rfl ?_
  refine zz_E.jt 48 rfl (by rfl) (by decide) rfl ?_
  refine zz_E.n 49 rfl rfl rfl ?_
  refine zz_E.n 52 rfl rfl rfl ?_
  refine zz_E.n 53 rfl rfl rfl ?_
  refine zz_E.n 54 rfl rfl rfl ?_
  refine zz_E.n 55 rfl rfl rfl ?_
  refine zz_E.n 58 rfl rfl rfl ?_
  refine zz_E.n 60 rfl rfl rfl ?_
  refine zz_E.n 61 rfl rfl rfl ?_
  refine zz_E.kf 64 rfl (by rfl) (by decide) rfl ?_
  refine zz_E.n 65 rfl rfl rfl ?_
  refine zz_E.n 68 rfl rfl rfl ?_
  refine zz_E.n 69 rfl rfl rfl ?_
  refine zz_E.n 70 rfl rfl rfl ?_
  refine zz_E.jt 93 rfl (by rfl) (by decide) rfl ?_
  refine zz_E.n 94 rfl rfl rfl ?_
  refine zz_E.n 98 rfl rfl rfl ?_
  refine zz_E.ret rfl rfl rfl ?_
  refine zz_E.kt 652 rfl (by rfl) (by decide) rfl ?_
  refine zz_E.n 655 rfl rfl rfl ?_
  refine zz_E.n 18 rfl rfl rfl ?_
  refine zz_E.n 19 rfl rfl rfl ?_
  refine zz_E.n 20 rfl rfl rfl ?_
  refine zz_E.n 21 rfl rfl rfl ?_
  refine zz_E.n 23 rfl rfl rfl ?_
  refine zz_E.n 24 rfl rfl rfl ?_
  refine zz_E.kt 658 rfl (by rfl) (by decide) rfl ?_
  refine zz_E.n 659 rfl rfl rfl ?_
  refine zz_E.ret rfl rfl rfl ?_
  exact ⟨rfl, by decide +kernel, by decide +kernel⟩
set_option maxRecDepth 100000 in
set_option maxHeartbeats 8000000 in
theorem zv_k15_6_7 (xs : Nat → Int32) : zz_E zp_P zt_tf zt_fd (zt_X 6 (fun q => if q = 1 then nI 6 else if q = 2 then nI 7 else xs q)) 1000 zm_law 33 zv_L [.int (nI 15)] zv_h zv_Q := by
  refine zz_E.n 579 rfl rfl rfl ?_
  refine zz_E.n 580 rfl rfl rfl ?_
  refine zz_E.n 581 rfl rfl rfl ?_
  refine zz_E.n 582 rfl rfl rfl ?_
  refine zz_E.n 583 rfl rfl rfl ?_
  refine zz_E.n 584 rfl rfl rfl ?_
  refine zz_E.n 585 rfl rfl rfl ?_
  refine zz_E.n 586 rfl rfl rfl ?_
  refine zz_E.n 587 rfl rfl rfl ?_
  refine zz_E.n 588 rfl rfl rfl ?_
  refine zz_E.n 589 rfl rfl rfl ?_
  refine zz_E.n 590 rfl rfl rfl ?_
  refine zz_E.cl (M' := zm_17) 593 rfl rfl (by decide) rfl rfl ⟨rfl, Nat.le_of_ble_eq_true rfl⟩ rfl ?_
  refine zz_E.n 1 rfl rfl rfl ?_
  refine zz_E.cl (M' := zm_21) 4 rfl rfl (by decide) rfl rfl ⟨rfl, Nat.le_of_ble_eq_true rfl⟩ rfl ?_
  refine zz_E.n 1 rfl rfl rfl ?_
  refine zz_E.jf 4 rfl (by rfl) (by decide) rfl ?_
  refine zz_E.n 5 rfl rfl rfl ?_
  refine zz_E.n 7 rfl rfl rfl ?_
  refine zz_E.kf 10 rfl (by rfl) (by decide) rfl ?_
  refine zz_E.n 11 rfl rfl rfl ?_
  refine zz_E.n 15 rfl rfl rfl ?_
  refine zz_E.ret rfl rfl rfl ?_
  refine zz_E.jf 7 rfl (by rfl) (by decide) rfl ?_
  refine zz_E.n 8 rfl rfl rfl ?_
  refine zz_E.cl (M' := zm_21) 11 rfl rfl (by decide) rfl rfl ⟨rfl, Nat.le_of_ble_eq_true rfl⟩ rfl ?_
  refine zz_E.n 1 rfl rfl rfl ?_
  refine zz_E.jf 4 rfl (by rfl) (by decide) rfl ?_
  refine zz_E.n 5 rfl rfl rfl ?_
  refine zz_E.n 7 rfl rfl rfl ?_
  refine zz_E.kf 10 rfl (by rfl) (by decide) rfl ?_
  refine zz_E.n 11 rfl rfl rfl ?_
  refine zz_E.n 15 rfl rfl rfl ?_
  refine zz_E.ret rfl rfl rfl ?_
  refine zz_E.jf 14 rfl (by rfl) (by decide) rfl ?_
  refine zz_E.n 15 rfl rfl rfl ?_
  refine zz_E.n 18 rfl rfl rfl ?_
  refine zz_E.n 19 rfl rfl rfl ?_
  refine zz_E.n 20 rfl rfl rfl ?_
  refine zz_E.cl (M' := zm_27) 23 rfl rfl (by decide) rfl rfl ⟨rfl, Nat.le_of_ble_eq_true rfl⟩ rfl ?_
  refine zz_E.n 1 rfl rfl rfl ?_
  refine zz_E.n 4 rfl rfl rfl ?_
  refine zz_E.n 5 rfl rfl rfl ?_
  refine zz_E.n 6 rfl rfl rfl ?_
  refine zz_E.n 7 rfl rfl rfl ?_
  refine zz_E.n 10 rfl rfl rfl ?_
  refine zz_E.n 11 rfl rfl rfl ?_
  refine zz_E.n 12 rfl rfl rfl ?_
  refine zz_E.kf 15 rfl (by rfl) (by decide) rfl ?_
  refine zz_E.n 16 rfl rfl rfl ?_
  refine zz_E.n 20 rfl rfl rfl ?_
  refine zz_E.n 21 rfl rfl rfl ?_
  refine zz_E.n 22 rfl rfl rfl ?_
  refine zz_E.n 24 rfl rfl rfl ?_
  refine zz_E.n 26 rfl rfl rfl ?_
  refine zz_E.n 27 rfl rfl rfl ?_
  refine zz_E.n 30 rfl rfl rfl ?_
  refine zz_E.n 31 rfl rfl rfl ?_
  refine zz_E.n 32 rfl rfl rfl ?_
  refine zz_E.kt 72 rfl (by rfl) (by decide) rfl ?_
  refine zz_E.n 73 rfl rfl rfl ?_
  refine zz_E.ret rfl rfl rfl ?_
  refine zz_E.jf 26 rfl (by rfl) (by decide) rfl ?_
  refine zz_E.n 27 rfl rfl rfl ?_
  refine zz_E.n 31 rfl rfl rfl ?_
  refine zz_E.ret rfl rfl rfl ?_
  refine zz_E.n 594 rfl rfl rfl ?_
  refine zz_E.n 595 rfl rfl rfl ?_
  refine zz_E.n 596 rfl rfl rfl ?_
  refine zz_E.n 597 rfl rfl rfl ?_
  refine zz_E.n 598 rfl rfl rfl ?_
  refine zz_E.n 599 rfl rfl rfl ?_
  refine zz_E.n 600 rfl rfl rfl ?_
  refine zz_E.n 601 rfl rfl rfl ?_
  refine zz_E.n 602 rfl rfl rfl ?_
  refine zz_E.n 603 rfl rfl rfl ?_
  refine zz_E.n 604 rfl rfl rfl ?_
  refine zz_E.cl (M' := zm_82) 607 rfl rfl (by decide) rfl rfl ⟨rfl, Nat.le_of_ble_eq_true rfl⟩ rfl ?_
  refine zz_E.n 1 rfl rfl rfl ?_
  refine zz_E.cl (M' := zm_73) 4 rfl rfl (by decide) rfl rfl ⟨rfl, Nat.le_of_ble_eq_true rfl⟩ rfl ?_
  refine zz_E.n 1 rfl rfl rfl ?_
  refine zz_E.jf 4 rfl (by rfl) (by decide) rfl ?_
  refine zz_E.n 5 rfl rfl rfl ?_
  refine zz_E.n 7 rfl rfl rfl ?_
  refine zz_E.kf 10 rfl (by rfl) (by decide) rfl ?_
  refine zz_E.n 11 rfl rfl rfl ?_
  refine zz_E.n 15 rfl rfl rfl ?_
  refine zz_E.ret rfl rfl rfl ?_
  refine zz_E.jf 7 rfl (by rfl) (by decide) rfl ?_
  refine zz_E.n 8 rfl rfl rfl ?_
  refine zz_E.cl (M' := zm_73) 11 rfl rfl (by decide) rfl rfl ⟨rfl, Nat.le_of_ble_eq_true rfl⟩ rfl ?_
  refine zz_E.n 1 rfl rfl rfl ?_
  refine zz_E.jf 4 rfl (by rfl) (by decide) rfl ?_
  refine zz_E.n 5 rfl rfl rfl ?_
  refine zz_E.n 7 rfl rfl rfl ?_
  refine zz_E.kf 10 rfl (by rfl) (by decide) rfl ?_
  refine zz_E.n 11 rfl rfl rfl ?_
  refine zz_E.n 15 rfl rfl rfl ?_
  refine zz_E.ret rfl rfl rfl ?_
  refine zz_E.jt 16 rfl (by rfl) (by decide) rfl ?_
  refine zz_E.n 19 rfl rfl rfl ?_
  refine zz_E.n 20 rfl rfl rfl ?_
  refine zz_E.n 21 rfl rfl rfl ?_
  refine zz_E.n 22 rfl rfl rfl ?_
  refine zz_E.n 25 rfl rfl rfl ?_
  refine zz_E.n 26 rfl rfl rfl ?_
  refine zz_E.n 27 rfl rfl rfl ?_
  refine zz_E.n 29 rfl rfl rfl ?_
  refine zz_E.n 30 rfl rfl rfl ?_
  refine zz_E.n 33 rfl rfl rfl ?_
  refine zz_E.n 34 rfl rfl rfl ?_
  refine zz_E.n 35 rfl rfl rfl ?_
  refine zz_E.jt 48 rfl (by rfl) (by decide) rfl ?_
  refine zz_E.n 49 rfl rfl rfl ?_
  refine zz_E.n 52 rfl rfl rfl ?_
  refine zz_E.n 53 rfl rfl rfl ?_
  refine zz_E.n 54 rfl rfl rfl ?_
  refine zz_E.n 55 rfl rfl rfl ?_
  refine zz_E.n 58 rfl rfl rfl ?_
  refine zz_E.n 60 rfl rfl rfl ?_
  refine zz_E.n 61 rfl rfl rfl ?_
  refine zz_E.kf 64 rfl (by rfl) (by decide) rfl ?_
  refine zz_E.n 65 rfl rfl rfl ?_
  refine zz_E.n 68 rfl rfl rfl ?_
  refine zz_E.n 69 rfl rfl rfl ?_
  refine zz_E.n 70 rfl rfl rfl ?_
  refine zz_E.jt 93 rfl (by rfl) (by decide) rfl ?_
  refine zz_E.n 94 rfl rfl rfl ?_
  refine zz_E.n 98 rfl rfl rfl ?_
  refine zz_E.ret rfl rfl rfl ?_
  refine zz_E.kt 652 rfl (by rfl) (by decide) rfl ?_
  refine zz_E.n 655 rfl rfl rfl ?_
  refine zz_E.n 18 rfl rfl rfl ?_
  refine zz_E.n 19 rfl rfl rfl ?_
  refine zz_E.n 20 rfl rfl rfl ?_
  refine zz_E.n 21 rfl rfl rfl ?_
  refine zz_E.n 23 rfl rfl rfl ?_
  refine zz_E.n 24 rfl rfl rfl ?_
  refine zz_E.kt 658 rfl (by rfl) (by decide) rfl ?_
  refine zz_E.n 659 rfl rfl rfl ?_
  refine zz_E.ret rfl rfl rfl ?_
  exact ⟨rfl, by decide +kernel, by decide +kernel⟩
set_option maxRecDepth 100000 in
set_option maxHeartbeats 8000000 in
theorem zv_k15_7_0 (xs : Nat → Int32) : zz_E zp_P zt_tf zt_fd (zt_X 6 (fun q => if q = 1 then nI 7 else if q = 2 then nI 0 else xs q)) 1000 zm_law 33 zv_L [.int (nI 15)] zv_h zv_Q := by
  refine zz_E.n 579 rfl rfl rfl ?_
  refine zz_E.n 580 rfl rfl rfl ?_
  refine zz_E.n 581 rfl rfl rfl ?_
  refine zz_E.n 582 rfl rfl rfl ?_
  refine zz_E.n 583 rfl rfl rfl ?_
  refine zz_E.n 584 rfl rfl rfl ?_
  refine zz_E.n 585 rfl rfl rfl ?_
  refine zz_E.n 586 rfl rfl rfl ?_
  refine zz_E.n 587 rfl rfl rfl ?_
  refine zz_E.n 588 rfl rfl rfl ?_
  refine zz_E.n 589 rfl rfl rfl ?_
  refine zz_E.n 590 rfl rfl rfl ?_
  refine zz_E.cl (M' := zm_17) 593 rfl rfl (by decide) rfl rfl ⟨rfl, Nat.le_of_ble_eq_true rfl⟩ rfl ?_
  refine zz_E.n 1 rfl rfl rfl ?_
  refine zz_E.cl (M' := zm_21) 4 rfl rfl (by decide) rfl rfl ⟨rfl, Nat.le_of_ble_eq_true rfl⟩ rfl ?_
  refine zz_E.n 1 rfl rfl rfl ?_
  refine zz_E.jf 4 rfl (by rfl) (by decide) rfl ?_
  refine zz_E.n 5 rfl rfl rfl ?_
  refine zz_E.n 7 rfl rfl rfl ?_
  refine zz_E.kf 10 rfl (by rfl) (by decide) rfl ?_
  refine zz_E.n 11 rfl rfl rfl ?_
  refine zz_E.n 15 rfl rfl rfl ?_
  refine zz_E.ret rfl rfl rfl ?_
  refine zz_E.jf 7 rfl (by rfl) (by decide) rfl ?_
  refine zz_E.n 8 rfl rfl rfl ?_
  refine zz_E.cl (M' := zm_21) 11 rfl rfl (by decide) rfl rfl ⟨rfl, Nat.le_of_ble_eq_true rfl⟩ rfl ?_
  refine zz_E.n 1 rfl rfl rfl ?_
  refine zz_E.jf 4 rfl (by rfl) (by decide) rfl ?_
  refine zz_E.n 5 rfl rfl rfl ?_
  refine zz_E.n 7 rfl rfl rfl ?_
  refine zz_E.kf 10 rfl (by rfl) (by decide) rfl ?_
  refine zz_E.n 11 rfl rfl rfl ?_
  refine zz_E.n 15 rfl rfl rfl ?_
  refine zz_E.ret rfl rfl rfl ?_
  refine zz_E.jf 14 rfl (by rfl) (by decide) rfl ?_
  refine zz_E.n 15 rfl rfl rfl ?_
  refine zz_E.n 18 rfl rfl rfl ?_
  refine zz_E.n 19 rfl rfl rfl ?_
  refine zz_E.n 20 rfl rfl rfl ?_
  refine zz_E.cl (M' := zm_27) 23 rfl rfl (by decide) rfl rfl ⟨rfl, Nat.le_of_ble_eq_true rfl⟩ rfl ?_
  refine zz_E.n 1 rfl rfl rfl ?_
  refine zz_E.n 4 rfl rfl rfl ?_
  refine zz_E.n 5 rfl rfl rfl ?_
  refine zz_E.n 6 rfl rfl rfl ?_
  refine zz_E.n 7 rfl rfl rfl ?_
  refine zz_E.n 10 rfl rfl rfl ?_
  refine zz_E.n 11 rfl rfl rfl ?_
  refine zz_E.n 12 rfl rfl rfl ?_
  refine zz_E.kf 15 rfl (by rfl) (by decide) rfl ?_
  refine zz_E.n 16 rfl rfl rfl ?_
  refine zz_E.n 20 rfl rfl rfl ?_
  refine zz_E.n 21 rfl rfl rfl ?_
  refine zz_E.n 22 rfl rfl rfl ?_
  refine zz_E.n 24 rfl rfl rfl ?_
  refine zz_E.n 26 rfl rfl rfl ?_
  refine zz_E.n 27 rfl rfl rfl ?_
  refine zz_E.n 30 rfl rfl rfl ?_
  refine zz_E.n 31 rfl rfl rfl ?_
  refine zz_E.n 32 rfl rfl rfl ?_
  refine zz_E.kt 72 rfl (by rfl) (by decide) rfl ?_
  refine zz_E.n 73 rfl rfl rfl ?_
  refine zz_E.ret rfl rfl rfl ?_
  refine zz_E.jf 26 rfl (by rfl) (by decide) rfl ?_
  refine zz_E.n 27 rfl rfl rfl ?_
  refine zz_E.n 31 rfl rfl rfl ?_
  refine zz_E.ret rfl rfl rfl ?_
  refine zz_E.n 594 rfl rfl rfl ?_
  refine zz_E.n 595 rfl rfl rfl ?_
  refine zz_E.n 596 rfl rfl rfl ?_
  refine zz_E.n 597 rfl rfl rfl ?_
  refine zz_E.n 598 rfl rfl rfl ?_
  refine zz_E.n 599 rfl rfl rfl ?_
  refine zz_E.n 600 rfl rfl rfl ?_
  refine zz_E.n 601 rfl rfl rfl ?_
  refine zz_E.n 602 rfl rfl rfl ?_
  refine zz_E.n 603 rfl rfl rfl ?_
  refine zz_E.n 604 rfl rfl rfl ?_
  refine zz_E.cl (M' := zm_82) 607 rfl rfl (by decide) rfl rfl ⟨rfl, Nat.le_of_ble_eq_true rfl⟩ rfl ?_
  refine zz_E.n 1 rfl rfl rfl ?_
  refine zz_E.cl (M' := zm_73) 4 rfl rfl (by decide) rfl rfl ⟨rfl, Nat.le_of_ble_eq_true rfl⟩ rfl ?_
  refine zz_E.n 1 rfl rfl rfl ?_
  refine zz_E.jf 4 rfl (by rfl) (by decide) rfl ?_
  refine zz_E.n 5 rfl rfl rfl ?_
  refine zz_E.n 7 rfl rfl rfl ?_
  refine zz_E.kf 10 rfl (by rfl) (by decide) rfl ?_
  refine zz_E.n 11 rfl rfl rfl ?_
  refine zz_E.n 15 rfl rfl rfl ?_
  refine zz_E.ret rfl rfl rfl ?_
  refine zz_E.jf 7 rfl (by rfl) (by decide) rfl ?_
  refine zz_E.n 8 rfl rfl rfl ?_
  refine zz_E.cl (M' := zm_73) 11 rfl rfl (by decide) rfl rfl ⟨rfl, Nat.le_of_ble_eq_true rfl⟩ rfl ?_
  refine zz_E.n 1 rfl rfl rfl ?_
  refine zz_E.jf 4 rfl (by rfl) (by decide) rfl ?_
  refine zz_E.n 5 rfl rfl rfl ?_
  refine zz_E.n 7 rfl rfl rfl ?_
  refine zz_E.kf 10 rfl (by rfl) (by decide) rfl ?_
  refine zz_E.n 11 rfl rfl rfl ?_
  refine zz_E.n 15 rfl rfl rfl ?_
  refine zz_E.ret rfl rfl rfl ?_
  refine zz_E.jt 16 rfl (by rfl) (by decide) rfl ?_
  refine zz_E.n 19 rfl rfl rfl ?_
  refine zz_E.n 20 rfl rfl rfl ?_
  refine zz_E.n 21 rfl rfl rfl ?_
  refine zz_E.n 22 rfl rfl rfl ?_
  refine zz_E.n 25 rfl rfl rfl ?_
  refine zz_E.n 26 rfl rfl rfl ?_
  refine zz_E.n 27 rfl rfl rfl ?_
  refine zz_E.n 29 rfl rfl rfl ?_
  refine zz_E.n 30 rfl rfl rfl ?_
  refine zz_E.n 33 rfl rfl rfl ?_
  refine zz_E.n 34 rfl rfl rfl ?_
  refine zz_E.n 35 rfl rfl rfl ?_
  refine zz_E.jt 48 rfl (by rfl) (by decide) rfl ?_
  refine zz_E.n 49 rfl rfl rfl ?_
  refine zz_E.n 52 rfl rfl rfl ?_
  refine zz_E.n 53 rfl rfl rfl ?_
  refine zz_E.n 54 rfl rfl rfl ?_
  refine zz_E.n 55 rfl rfl rfl ?_
  refine zz_E.n 58 rfl rfl rfl ?_
  refine zz_E.n 60 rfl rfl rfl ?_
  refine zz_E.n 61 rfl rfl rfl ?_
  refine zz_E.kf 64 rfl (by rfl) (by decide) rfl ?_
  refine zz_E.n 65 rfl rfl rfl ?_
  refine zz_E.n 68 rfl rfl rfl ?_
  refine zz_E.n 69 rfl rfl rfl ?_
  refine zz_E.n 70 rfl rfl rfl ?_
  refine zz_E.jt 93 rfl (by rfl) (by decide) rfl ?_
  refine zz_E.n 94 rfl rfl rfl ?_
  refine zz_E.n 98 rfl rfl rfl ?_
  refine zz_E.ret rfl rfl rfl ?_
  refine zz_E.kt 652 rfl (by rfl) (by decide) rfl ?_
  refine zz_E.n 655 rfl rfl rfl ?_
  refine zz_E.n 18 rfl rfl rfl ?_
  refine zz_E.n 19 rfl rfl rfl ?_
  refine zz_E.n 20 rfl rfl rfl ?_
  refine zz_E.n 21 rfl rfl rfl ?_
  refine zz_E.n 23 rfl rfl rfl ?_
  refine zz_E.n 24 rfl rfl rfl ?_
  refine zz_E.kt 658 rfl (by rfl) (by decide) rfl ?_
  refine zz_E.n 659 rfl rfl rfl ?_
  refine zz_E.ret rfl rfl rfl ?_
  exact ⟨rfl, by decide +kernel, by decide +kernel⟩
set_option maxRecDepth 100000 in
set_option maxHeartbeats 8000000 in
theorem zv_k15_7_1 (xs : Nat → Int32) : zz_E zp_P zt_tf zt_fd (zt_X 6 (fun q => if q = 1 then nI 7 else if q = 2 then nI 1 else xs q)) 1000 zm_law 33 zv_L [.int (nI 15)] zv_h zv_Q := by
  refine zz_E.n 579 rfl rfl rfl ?_
  refine zz_E.n 580 rfl rfl rfl ?_
  refine zz_E.n 581 rfl rfl rfl ?_
  refine zz_E.n 582 rfl rfl rfl ?_
  refine zz_E.n 583 rfl rfl rfl ?_
  refine zz_E.n 584 rfl rfl rfl ?_
  refine zz_E.n 585 rfl rfl rfl ?_
  refine zz_E.n 586 rfl rfl rfl ?_
  refine zz_E.n 587 rfl rfl rfl ?_
  refine zz_E.n 588 rfl rfl rfl ?_
  refine zz_E.n 589 rfl rfl rfl ?_
  refine zz_E.n 590 rfl rfl rfl ?_
  refine zz_E.cl (M' := zm_17) 593 rfl rfl (by decide) rfl rfl ⟨rfl, Nat.le_of_ble_eq_true rfl⟩ rfl ?_
  refine zz_E.n 1 rfl rfl rfl ?_
  refine zz_E.cl (M' := zm_21) 4 rfl rfl (by decide) rfl rfl ⟨rfl, Nat.le_of_ble_eq_true rfl⟩ rfl ?_
  refine zz_E.n 1 rfl rfl rfl ?_
  refine zz_E.jf 4 rfl (by rfl) (by decide) rfl ?_
  refine zz_E.n 5 rfl rfl rfl ?_
  refine zz_E.n 7 rfl rfl rfl ?_
  refine zz_E.kf 10 rfl (by rfl) (by decide) rfl ?_
  refine zz_E.n 11 rfl rfl rfl ?_
  refine zz_E.n 15 rfl rfl rfl ?_
  refine zz_E.ret rfl rfl rfl ?_
  refine zz_E.jf 7 rfl (by rfl) (by decide) rfl ?_
  refine zz_E.n 8 rfl rfl rfl ?_
  refine zz_E.cl (M' := zm_21) 11 rfl rfl (by decide) rfl rfl ⟨rfl, Nat.le_of_ble_eq_true rfl⟩ rfl ?_
  refine zz_E.n 1 rfl rfl rfl ?_
  refine zz_E.jf 4 rfl (by rfl) (by decide) rfl ?_
  refine zz_E.n 5 rfl rfl rfl ?_
  refine zz_E.n 7 rfl rfl rfl ?_
  refine zz_E.kf 10 rfl (by rfl) (by decide) rfl ?_
  refine zz_E.n 11 rfl rfl rfl ?_
  refine zz_E.n 15 rfl rfl rfl ?_
  refine zz_E.ret rfl rfl rfl ?_
  refine zz_E.jf 14 rfl (by rfl) (by decide) rfl ?_
  refine zz_E.n 15 rfl rfl rfl ?_
  refine zz_E.n 18 rfl rfl rfl ?_
  refine zz_E.n 19 rfl rfl rfl ?_
  refine zz_E.n 20 rfl rfl rfl ?_
  refine zz_E.cl (M' := zm_27) 23 rfl rfl (by decide) rfl rfl ⟨rfl, Nat.le_of_ble_eq_true rfl⟩ rfl ?_
  refine zz_E.n 1 rfl rfl rfl ?_
  refine zz_E.n 4 rfl rfl rfl ?_
  refine zz_E.n 5 rfl rfl rfl ?_
  refine zz_E.n 6 rfl rfl rfl ?_
  refine zz_E.n 7 rfl rfl rfl ?_
  refine zz_E.n 10 rfl rfl rfl ?_
  refine zz_E.n 11 rfl rfl rfl ?_
  refine zz_E.n 12 rfl rfl rfl ?_
  refine zz_E.kf 15 rfl (by rfl) (by decide) rfl ?_
  refine zz_E.n 16 rfl rfl rfl ?_
  refine zz_E.n 20 rfl rfl rfl ?_
  refine zz_E.n 21 rfl rfl rfl ?_
  refine zz_E.n 22 rfl rfl rfl ?_
  refine zz_E.n 24 rfl rfl rfl ?_
  refine zz_E.n 26 rfl rfl rfl ?_
  refine zz_E.n 27 rfl rfl rfl ?_
  refine zz_E.n 30 rfl rfl rfl ?_
  refine zz_E.n 31 rfl rfl rfl ?_
  refine zz_E.n 32 rfl rfl rfl ?_
  refine zz_E.kt 72 rfl (by rfl) (by decide) rfl ?_
  refine zz_E.n 73 rfl rfl rfl ?_
  refine zz_E.ret rfl rfl rfl ?_
  refine zz_E.jf 26 rfl (by rfl) (by decide) rfl ?_
  refine zz_E.n 27 rfl rfl rfl ?_
  refine zz_E.n 31 rfl rfl rfl ?_
  refine zz_E.ret rfl rfl rfl ?_
  refine zz_E.n 594 rfl rfl rfl ?_
  refine zz_E.n 595 rfl rfl rfl ?_
  refine zz_E.n 596 rfl rfl rfl ?_
  refine zz_E.n 597 rfl rfl rfl ?_
  refine zz_E.n 598 rfl rfl rfl ?_
  refine zz_E.n 599 rfl rfl rfl ?_
  refine zz_E.n 600 rfl rfl rfl ?_
  refine zz_E.n 601 rfl rfl rfl ?_
  refine zz_E.n 602 rfl rfl rfl ?_
  refine zz_E.n 603 rfl rfl rfl ?_
  refine zz_E.n 604 rfl rfl rfl ?_
  refine zz_E.cl (M' := zm_82) 607 rfl rfl (by decide) rfl rfl ⟨rfl, Nat.le_of_ble_eq_true rfl⟩ rfl ?_
  refine zz_E.n 1 rfl rfl rfl ?_
  refine zz_E.cl (M' := zm_73) 4 rfl rfl (by decide) rfl rfl ⟨rfl, Nat.le_of_ble_eq_true rfl⟩ rfl ?_
  refine zz_E.n 1 rfl rfl rfl ?_
  refine zz_E.jf 4 rfl (by rfl) (by decide) rfl ?_
  refine zz_E.n 5 rfl rfl rfl ?_
  refine zz_E.n 7 rfl rfl rfl ?_
  refine zz_E.kf 10 rfl (by rfl) (by decide) rfl ?_
  refine zz_E.n 11 rfl rfl rfl ?_
  refine zz_E.n 15 rfl rfl rfl ?_
  refine zz_E.ret rfl rfl rfl ?_
  refine zz_E.jf 7 rfl (by rfl) (by decide) rfl ?_
  refine zz_E.n 8 rfl rfl rfl ?_
  refine zz_E.cl (M' := zm_73) 11 rfl rfl (by decide) rfl rfl ⟨rfl, Nat.le_of_ble_eq_true rfl⟩ rfl ?_
  refine zz_E.n 1 rfl rfl rfl ?_
  refine zz_E.jf 4 rfl (by rfl) (by decide) rfl ?_
  refine zz_E.n 5 rfl rfl rfl ?_
  refine zz_E.n 7 rfl rfl rfl ?_
  refine zz_E.kf 10 rfl (by rfl) (by decide) rfl ?_
  refine zz_E.n 11 rfl rfl rfl ?_
  refine zz_E.n 15 rfl rfl rfl ?_
  refine zz_E.ret rfl rfl rfl ?_
  refine zz_E.jt 16 rfl (by rfl) (by decide) rfl ?_
  refine zz_E.n 19 rfl rfl rfl ?_
  refine zz_E.n 20 rfl rfl rfl ?_
  refine zz_E.n 21 rfl rfl rfl ?_
  refine zz_E.n 22 rfl rfl rfl ?_
  refine zz_E.n 25 rfl rfl rfl ?_
  refine zz_E.n 26 rfl rfl rfl ?_
  refine zz_E.n 27 rfl rfl rfl ?_
  refine zz_E.n 29 rfl rfl rfl ?_
  refine zz_E.n 30 rfl rfl rfl ?_
  refine zz_E.n 33 rfl rfl rfl ?_
  refine zz_E.n 34 rfl rfl rfl ?_
  refine zz_E.n 35 rfl rfl rfl ?_
  refine zz_E.jt 48 rfl (by rfl) (by decide) rfl ?_
  refine zz_E.n 49 rfl rfl rfl ?_
  refine zz_E.n 52 rfl rfl rfl ?_
  refine zz_E.n 53 rfl rfl rfl ?_
  refine zz_E.n 54 rfl rfl rfl ?_
  refine zz_E.n 55 rfl rfl rfl ?_
  refine zz_E.n 58 rfl rfl rfl ?_
  refine zz_E.n 60 rfl rfl rfl ?_
  refine zz_E.n 61 rfl rfl rfl ?_
  refine zz_E.kf 64 rfl (by rfl) (by decide) rfl ?_
  refine zz_E.n 65 rfl rfl rfl ?_
  refine zz_E.n 68 rfl rfl rfl ?_
  refine zz_E.n 69 rfl rfl rfl ?_
  refine zz_E.n 70 rfl rfl rfl ?_
  refine zz_E.jt 93 rfl (by rfl) (by decide) rfl ?_
  refine zz_E.n 94 rfl rfl rfl ?_
  refine zz_E.n 98 rfl rfl rfl ?_
  refine zz_E.ret rfl rfl rfl ?_
  refine zz_E.kt 652 rfl (by rfl) (by decide) rfl ?_
  refine zz_E.n 655 rfl rfl rfl ?_
  refine zz_E.n 18 rfl rfl rfl ?_
  refine zz_E.n 19 rfl rfl rfl ?_
  refine zz_E.n 20 rfl rfl rfl ?_
  refine zz_E.n 21 rfl rfl rfl ?_
  refine zz_E.n 23 rfl rfl rfl ?_
  refine zz_E.n 24 rfl rfl rfl ?_
  refine zz_E.kt 658 rfl (by rfl) (by decide) rfl ?_
  refine zz_E.n 659 rfl rfl rfl ?_
  refine zz_E.ret rfl rfl rfl ?_
  exact ⟨rfl, by decide +kernel, by decide +kernel⟩
set_option maxRecDepth 100000 in
set_option maxHeartbeats 8000000 in
theorem zv_k15_7_2 (xs : Nat → Int32) : zz_E zp_P zt_tf zt_fd (zt_X 6 (fun q => if q = 1 then nI 7 else if q = 2 then nI 2 else xs q)) 1000 zm_law 33 zv_L [.int (nI 15)] zv_h zv_Q := by
  refine zz_E.n 579 rfl rfl rfl ?_
  refine zz_E.n 580 rfl rfl rfl ?_
  refine zz_E.n 581 rfl rfl rfl ?_
  refine zz_E.n 582 rfl rfl rfl ?_
  refine zz_E.n 583 rfl rfl rfl ?_
  refine zz_E.n 584 rfl rfl rfl ?_
  refine zz_E.n 585 rfl rfl rfl ?_
  refine zz_E.n 586 rfl rfl rfl ?_
  refine zz_E.n 587 rfl rfl rfl ?_
  refine zz_E.n 588 rfl rfl rfl ?_
  refine zz_E.n 589 rfl rfl rfl ?_
  refine zz_E.n 590 rfl rfl rfl ?_
  refine zz_E.cl (M' := zm_17) 593 rfl rfl (by decide) rfl rfl ⟨rfl, Nat.le_of_ble_eq_true rfl⟩ rfl ?_
  refine zz_E.n 1 rfl rfl rfl ?_
  refine zz_E.cl (M' := zm_21) 4 rfl rfl (by decide) rfl rfl ⟨rfl, Nat.le_of_ble_eq_true rfl⟩ rfl ?_
  refine zz_E.n 1 rfl rfl rfl ?_
  refine zz_E.jf 4 rfl (by rfl) (by decide) rfl ?_
  refine zz_E.n 5 rfl rfl rfl ?_
  refine zz_E.n 7 rfl rfl rfl ?_
  refine zz_E.kf 10 rfl (by rfl) (by decide) rfl ?_
  refine zz_E.n 11 rfl rfl rfl ?_
  refine zz_E.n 15 rfl rfl rfl ?_
  refine zz_E.ret rfl rfl rfl ?_
  refine zz_E.jf 7 rfl (by rfl) (by decide) rfl ?_
  refine zz_E.n 8 rfl rfl rfl ?_
  refine zz_E.cl (M' := zm_21) 11 rfl rfl (by decide) rfl rfl ⟨rfl, Nat.le_of_ble_eq_true rfl⟩ rfl ?_
  refine zz_E.n 1 rfl rfl rfl ?_
  refine zz_E.jf 4 rfl (by rfl) (by decide) rfl ?_
  refine zz_E.n 5 rfl rfl rfl ?_
  refine zz_E.n 7 rfl rfl rfl ?_
  refine zz_E.kf 10 rfl (by rfl) (by decide) rfl ?_
  refine zz_E.n 11 rfl rfl rfl ?_
  refine zz_E.n 15 rfl rfl rfl ?_
  refine zz_E.ret rfl rfl rfl ?_
  refine zz_E.jf 14 rfl (by rfl) (by decide) rfl ?_
  refine zz_E.n 15 rfl rfl rfl ?_
  refine zz_E.n 18 rfl rfl rfl ?_
  refine zz_E.n 19 rfl rfl rfl ?_
  refine zz_E.n 20 rfl rfl rfl ?_
  refine zz_E.cl (M' := zm_27) 23 rfl rfl (by decide) rfl rfl ⟨rfl, Nat.le_of_ble_eq_true rfl⟩ rfl ?_
  refine zz_E.n 1 rfl rfl rfl ?_
  refine zz_E.n 4 rfl rfl rfl ?_
  refine zz_E.n 5 rfl rfl rfl ?_
  refine zz_E.n 6 rfl rfl rfl ?_
  refine zz_E.n 7 rfl rfl rfl ?_
  refine zz_E.n 10 rfl rfl rfl ?_
  refine zz_E.n 11 rfl rfl rfl ?_
  refine zz_E.n 12 rfl rfl rfl ?_
  refine zz_E.kf 15 rfl (by rfl) (by decide) rfl ?_
  refine zz_E.n 16 rfl rfl rfl ?_
  refine zz_E.n 20 rfl rfl rfl ?_
  refine zz_E.n 21 rfl rfl rfl ?_
  refine zz_E.n 22 rfl rfl rfl ?_
  refine zz_E.n 24 rfl rfl rfl ?_
  refine zz_E.n 26 rfl rfl rfl ?_
  refine zz_E.n 27 rfl rfl rfl ?_
  refine zz_E.n 30 rfl rfl rfl ?_
  refine zz_E.n 31 rfl rfl rfl ?_
  refine zz_E.n 32 rfl rfl rfl ?_
  refine zz_E.kt 72 rfl (by rfl) (by decide) rfl ?_
  refine zz_E.n 73 rfl rfl rfl ?_
  refine zz_E.ret rfl rfl rfl ?_
  refine zz_E.jf 26 rfl (by rfl) (by decide) rfl ?_
  refine zz_E.n 27 rfl rfl rfl ?_
  refine zz_E.n 31 rfl rfl rfl ?_
  refine zz_E.ret rfl rfl rfl ?_
  refine zz_E.n 594 rfl rfl rfl ?_
  refine zz_E.n 595 rfl rfl rfl ?_
  refine zz_E.n 596 rfl rfl rfl ?_
  refine zz_E.n 597 rfl rfl rfl ?_
  refine zz_E.n 598 rfl rfl rfl ?_
  refine zz_E.n 599 rfl rfl rfl ?_
  refine zz_E.n 600 rfl rfl rfl ?_
  refine zz_E.n 601 rfl rfl rfl ?_
  refine zz_E.n 602 rfl rfl rfl ?_
  refine zz_E.n 603 rfl rfl rfl ?_
  refine zz_E.n 604 rfl rfl rfl ?_
  refine zz_E.cl (M' := zm_82) 607 rfl rfl (by decide) rfl rfl ⟨rfl, Nat.le_of_ble_eq_true rfl⟩ rfl ?_
  refine zz_E.n 1 rfl rfl rfl ?_
  refine zz_E.cl (M' := zm_73) 4 rfl rfl (by decide) rfl rfl ⟨rfl, Nat.le_of_ble_eq_true rfl⟩ rfl ?_
  refine zz_E.n 1 rfl rfl rfl ?_
  refine zz_E.jf 4 rfl (by rfl) (by decide) rfl ?_
  refine zz_E.n 5 rfl rfl rfl ?_
  refine zz_E.n 7 rfl rfl rfl ?_
  refine zz_E.kf 10 rfl (by rfl) (by decide) rfl ?_
  refine zz_E.n 11 rfl rfl rfl ?_
  refine zz_E.n 15 rfl rfl rfl ?_
  refine zz_E.ret rfl rfl rfl ?_
  refine zz_E.jf 7 rfl (by rfl) (by decide) rfl ?_
  refine zz_E.n 8 rfl rfl rfl ?_
  refine zz_E.cl (M' := zm_73) 11 rfl rfl (by decide) rfl rfl ⟨rfl, Nat.le_of_ble_eq_true rfl⟩ rfl ?_
  refine zz_E.n 1 rfl rfl rfl ?_
  refine zz_E.jf 4 rfl (by rfl) (by decide) rfl ?_
  refine zz_E.n 5 rfl rfl rfl ?_
  refine zz_E.n 7 rfl rfl rfl ?_
  refine zz_E.kf 10 rfl (by rfl) (by decide) rfl ?_
  refine zz_E.n 11 rfl rfl rfl ?_
  refine zz_E.n 15 rfl rfl rfl ?_
  refine zz_E.ret rfl rfl rfl ?_
  refine zz_E.jt 16 rfl (by rfl) (by decide) rfl ?_
  refine zz_E.n 19 rfl rfl rfl ?_
  refine zz_E.n 20 rfl rfl rfl ?_
  refine zz_E.n 21 rfl rfl rfl ?_
  refine zz_E.n 22 rfl rfl rfl ?_
  refine zz_E.n 25 rfl rfl rfl ?_
  refine zz_E.n 26 rfl rfl rfl ?_
  refine zz_E.n 27 rfl rfl rfl ?_
  refine zz_E.n 29 rfl rfl rfl ?_
  refine zz_E.n 30 rfl rfl rfl ?_
  refine zz_E.n 33 rfl rfl rfl ?_
  refine zz_E.n 34 rfl rfl rfl ?_
  refine zz_E.n 35 rfl rfl rfl ?_
  refine zz_E.jt 48 rfl (by rfl) (by decide) rfl ?_
  refine zz_E.n 49 rfl rfl rfl ?_
  refine zz_E.n 52 rfl rfl rfl ?_
  refine zz_E.n 53 rfl rfl rfl ?_
  refine zz_E.n 54 rfl rfl rfl ?_
  refine zz_E.n 55 rfl rfl rfl ?_
  refine zz_E.n 58 rfl rfl rfl ?_
  refine zz_E.n 60 rfl rfl rfl ?_
  refine zz_E.n 61 rfl rfl rfl ?_
  refine zz_E.kf 64 rfl (by rfl) (by decide) rfl ?_
  refine zz_E.n 65 rfl rfl rfl ?_
  refine zz_E.n 68 rfl rfl rfl ?_
  refine zz_E.n 69 rfl rfl rfl ?_
  refine zz_E.n 70 rfl rfl rfl ?_
  refine zz_E.jt 93 rfl (by rfl) (by decide) rfl ?_
  refine zz_E.n 94 rfl rfl rfl ?_
  refine zz_E.n 98 rfl rfl rfl ?_
  refine zz_E.ret rfl rfl rfl ?_
  refine zz_E.kt 652 rfl (by rfl) (by decide) rfl ?_
  refine zz_E.n 655 rfl rfl rfl ?_
  refine zz_E.n 18 rfl rfl rfl ?_
  refine zz_E.n 19 rfl rfl rfl ?_
  refine zz_E.n 20 rfl rfl rfl ?_
  refine zz_E.n 21 rfl rfl rfl ?_
  refine zz_E.n 23 rfl rfl rfl ?_
  refine zz_E.n 24 rfl rfl rfl ?_
  refine zz_E.kt 658 rfl (by rfl) (by decide) rfl ?_
  refine zz_E.n 659 rfl rfl rfl ?_
  refine zz_E.ret rfl rfl rfl ?_
  exact ⟨rfl, by decide +kernel, by decide +kernel⟩
set_option maxRecDepth 100000 in
set_option maxHeartbeats 8000000 in
theorem zv_k15_7_3 (xs : Nat → Int32) : zz_E zp_P zt_tf zt_fd (zt_X 6 (fun q => if q = 1 then nI 7 else if q = 2 then nI 3 else xs q)) 1000 zm_law 33 zv_L [.int (nI 15)] zv_h zv_Q := by
  refine zz_E.n 579 rfl rfl rfl ?_
  refine zz_E.n 580 rfl rfl rfl ?_
  refine zz_E.n 581 rfl rfl rfl ?_
  refine zz_E.n 582 rfl rfl rfl ?_
  refine zz_E.n 583 rfl rfl rfl ?_
  refine zz_E.n 584 rfl rfl rfl ?_
  refine zz_E.n 585 rfl rfl rfl ?_
  refine zz_E.n 586 rfl rfl rfl ?_
  refine zz_E.n 587 rfl rfl rfl ?_
  refine zz_E.n 588 rfl rfl rfl ?_
  refine zz_E.n 589 rfl rfl rfl ?_
  refine zz_E.n 590 rfl rfl rfl ?_
  refine zz_E.cl (M' := zm_17) 593 rfl rfl (by decide) rfl rfl ⟨rfl, Nat.le_of_ble_eq_true rfl⟩ rfl ?_
  refine zz_E.n 1 rfl rfl rfl ?_
  refine zz_E.cl (M' := zm_21) 4 rfl rfl (by decide) rfl rfl ⟨rfl, Nat.le_of_ble_eq_true rfl⟩ rfl ?_
  refine zz_E.n 1 rfl rfl rfl ?_
  refine zz_E.jf 4 rfl (by rfl) (by decide) rfl ?_
  refine zz_E.n 5 rfl rfl rfl ?_
  refine zz_E.n 7 rfl rfl rfl ?_
  refine zz_E.kf 10 rfl (by rfl) (by decide) rfl ?_
  refine zz_E.n 11 rfl rfl rfl ?_
  refine zz_E.n 15 rfl rfl rfl ?_
  refine zz_E.ret rfl rfl rfl ?_
  refine zz_E.jf 7 rfl (by rfl) (by decide) rfl ?_
  refine zz_E.n 8 rfl rfl rfl ?_
  refine zz_E.cl (M' := zm_21) 11 rfl rfl (by decide) rfl rfl ⟨rfl, Nat.le_of_ble_eq_true rfl⟩ rfl ?_
  refine zz_E.n 1 rfl rfl rfl ?_
  refine zz_E.jf 4 rfl (by rfl) (by decide) rfl ?_
  refine zz_E.n 5 rfl rfl rfl ?_
  refine zz_E.n 7 rfl rfl rfl ?_
  refine zz_E.kf 10 rfl (by rfl) (by decide) rfl ?_
  refine zz_E.n 11 rfl rfl rfl ?_
  refine zz_E.n 15 rfl rfl rfl ?_
  refine zz_E.ret rfl rfl rfl ?_
  refine zz_E.jf 14 rfl (by rfl) (by decide) rfl ?_
  refine zz_E.n 15 rfl rfl rfl ?_
  refine zz_E.n 18 rfl rfl rfl ?_
  refine zz_E.n 19 rfl rfl rfl ?_
  refine zz_E.n 20 rfl rfl rfl ?_
  refine zz_E.cl (M' := zm_27) 23 rfl rfl (by decide) rfl rfl ⟨rfl, Nat.le_of_ble_eq_true rfl⟩ rfl ?_
  refine zz_E.n 1 rfl rfl rfl ?_
  refine zz_E.n 4 rfl rfl rfl ?_
  refine zz_E.n 5 rfl rfl rfl ?_
  refine zz_E.n 6 rfl rfl rfl ?_
  refine zz_E.n 7 rfl rfl rfl ?_
  refine zz_E.n 10 rfl rfl rfl ?_
  refine zz_E.n 11 rfl rfl rfl ?_
  refine zz_E.n 12 rfl rfl rfl ?_
  refine zz_E.kf 15 rfl (by rfl) (by decide) rfl ?_
  refine zz_E.n 16 rfl rfl rfl ?_
  refine zz_E.n 20 rfl rfl rfl ?_
  refine zz_E.n 21 rfl rfl rfl ?_
  refine zz_E.n 22 rfl rfl rfl ?_
  refine zz_E.n 24 rfl rfl rfl ?_
  refine zz_E.n 26 rfl rfl rfl ?_
  refine zz_E.n 27 rfl rfl rfl ?_
  refine zz_E.n 30 rfl rfl rfl ?_
  refine zz_E.n 31 rfl rfl rfl ?_
  refine zz_E.n 32 rfl rfl rfl ?_
  refine zz_E.kt 72 rfl (by rfl) (by decide) rfl ?_
  refine zz_E.n 73 rfl rfl rfl ?_
  refine zz_E.ret rfl rfl rfl ?_
  refine zz_E.jf 26 rfl (by rfl) (by decide) rfl ?_
  refine zz_E.n 27 rfl rfl rfl ?_
  refine zz_E.n 31 rfl rfl rfl ?_
  refine zz_E.ret rfl rfl rfl ?_
  refine zz_E.n 594 rfl rfl rfl ?_
  refine zz_E.n 595 rfl rfl rfl ?_
  refine zz_E.n 596 rfl rfl rfl ?_
  refine zz_E.n 597 rfl rfl rfl ?_
  refine zz_E.n 598 rfl rfl rfl ?_
  refine zz_E.n 599 rfl rfl rfl ?_
  refine zz_E.n 600 rfl rfl rfl ?_
  refine zz_E.n 601 rfl rfl rfl ?_
  refine zz_E.n 602 rfl rfl rfl ?_
  refine zz_E.n 603 rfl rfl rfl ?_
  refine zz_E.n 604 rfl rfl rfl ?_
  refine zz_E.cl (M' := zm_82) 607 rfl rfl (by decide) rfl rfl ⟨rfl, Nat.le_of_ble_eq_true rfl⟩ rfl ?_
  refine zz_E.n 1 rfl rfl rfl ?_
  refine zz_E.cl (M' := zm_73) 4 rfl rfl (by decide) rfl rfl ⟨rfl, Nat.le_of_ble_eq_true rfl⟩ rfl ?_
  refine zz_E.n 1 rfl rfl rfl ?_
  refine zz_E.jf 4 rfl (by rfl) (by decide) rfl ?_
  refine zz_E.n 5 rfl rfl rfl ?_
  refine zz_E.n 7 rfl rfl rfl ?_
  refine zz_E.kf 10 rfl (by rfl) (by decide) rfl ?_
  refine zz_E.n 11 rfl rfl rfl ?_
  refine zz_E.n 15 rfl rfl rfl ?_
  refine zz_E.ret rfl rfl rfl ?_
  refine zz_E.jf 7 rfl (by rfl) (by decide) rfl ?_
  refine zz_E.n 8 rfl rfl rfl ?_
  refine zz_E.cl (M' := zm_73) 11 rfl rfl (by decide) rfl rfl ⟨rfl, Nat.le_of_ble_eq_true rfl⟩ rfl ?_
  refine zz_E.n 1 rfl rfl rfl ?_
  refine zz_E.jf 4 rfl (by rfl) (by decide) rfl ?_
  refine zz_E.n 5 rfl rfl rfl ?_
  refine zz_E.n 7 rfl rfl rfl ?_
  refine zz_E.kf 10 rfl (by rfl) (by decide) rfl ?_
  refine zz_E.n 11 rfl rfl rfl ?_
  refine zz_E.n 15 rfl rfl rfl ?_
  refine zz_E.ret rfl rfl rfl ?_
  refine zz_E.jt 16 rfl (by rfl) (by decide) rfl ?_
  refine zz_E.n 19 rfl rfl rfl ?_
  refine zz_E.n 20 rfl rfl rfl ?_
  refine zz_E.n 21 rfl rfl rfl ?_
  refine zz_E.n 22 rfl rfl rfl ?_
  refine zz_E.n 25 rfl rfl rfl ?_
  refine zz_E.n 26 rfl rfl rfl ?_
  refine zz_E.n 27 rfl rfl rfl ?_
  refine zz_E.n 29 rfl rfl rfl ?_
  refine zz_E.n 30 rfl rfl rfl ?_
  refine zz_E.n 33 rfl rfl rfl ?_
  refine zz_E.n 34 rfl rfl rfl ?_
  refine zz_E.n 35 rfl rfl rfl ?_
  refine zz_E.jt 48 rfl (by rfl) (by decide) rfl ?_
  refine zz_E.n 49 rfl rfl rfl ?_
  refine zz_E.n 52 rfl rfl rfl ?_
  refine zz_E.n 53 rfl rfl rfl ?_
  refine zz_E.n 54 rfl rfl rfl ?_
  refine zz_E.n 55 rfl rfl rfl ?_
  refine zz_E.n 58 rfl rfl rfl ?_
  refine zz_E.n 60 rfl rfl rfl ?_
  refine zz_E.n 61 rfl rfl rfl ?_
  refine zz_E.kf 64 rfl (by rfl) (by decide) rfl ?_
  refine zz_E.n 65 rfl rfl rfl ?_
  refine zz_E.n 68 rfl rfl rfl ?_
  refine zz_E.n 69 rfl rfl rfl ?_
  refine zz_E.n 70 rfl rfl rfl ?_
  refine zz_E.jt 93 rfl (by rfl) (by decide) rfl ?_
  refine zz_E.n 94 rfl rfl rfl ?_
  refine zz_E.n 98 rfl rfl rfl ?_
  refine zz_E.ret rfl rfl rfl ?_
  refine zz_E.kt 652 rfl (by rfl) (by decide) rfl ?_
  refine zz_E.n 655 rfl rfl rfl ?_
  refine zz_E.n 18 rfl rfl rfl ?_
  refine zz_E.n 19 rfl rfl rfl ?_
  refine zz_E.n 20 rfl rfl rfl ?_
  refine zz_E.n 21 rfl rfl rfl ?_
  refine zz_E.n 23 rfl rfl rfl ?_
  refine zz_E.n 24 rfl rfl rfl ?_
  refine zz_E.kt 658 rfl (by rfl) (by decide) rfl ?_
  refine zz_E.n 659 rfl rfl rfl ?_
  refine zz_E.ret rfl rfl rfl ?_
  exact ⟨rfl, by decide +kernel, by decide +kernel⟩
set_option maxRecDepth 100000 in
set_option maxHeartbeats 8000000 in
theorem zv_k15_7_4 (xs : Nat → Int32) : zz_E zp_P zt_tf zt_fd (zt_X 6 (fun q => if q = 1 then nI 7 else if q = 2 then nI 4 else xs q)) 1000 zm_law 33 zv_L [.int (nI 15)] zv_h zv_Q := by
  refine zz_E.n 579 rfl rfl rfl ?_
  refine zz_E.n 580 rfl rfl rfl ?_
  refine zz_E.n 581 rfl rfl rfl ?_
  refine zz_E.n 582 rfl rfl rfl ?_
  refine zz_E.n 583 rfl rfl rfl ?_
  refine zz_E.n 584 rfl rfl rfl ?_
  refine zz_E.n 585 rfl rfl rfl ?_
  refine zz_E.n 586 rfl rfl rfl ?_
  refine zz_E.n 587 rfl rfl rfl ?_
  refine zz_E.n 588 rfl rfl rfl ?_
  refine zz_E.n 589 rfl rfl rfl ?_
  refine zz_E.n 590 rfl rfl rfl ?_
  refine zz_E.cl (M' := zm_17) 593 rfl rfl (by decide) rfl rfl ⟨rfl, Nat.le_of_ble_eq_true rfl⟩ rfl ?_
  refine zz_E.n 1 rfl rfl rfl ?_
  refine zz_E.cl (M' := zm_21) 4 rfl rfl (by decide) rfl rfl ⟨rfl, Nat.le_of_ble_eq_true rfl⟩ rfl ?_
  refine zz_E.n 1 rfl rfl rfl ?_
  refine zz_E.jf 4 rfl (by rfl) (by decide) rfl ?_
  refine zz_E.n 5 rfl rfl rfl ?_
  refine zz_E.n 7 rfl rfl rfl ?_
  refine zz_E.kf 10 rfl (by rfl) (by decide) rfl ?_
  refine zz_E.n 11 rfl rfl rfl ?_
  refine zz_E.n 15 rfl rfl rfl ?_
  refine zz_E.ret rfl rfl rfl ?_
  refine zz_E.jf 7 rfl (by rfl) (by decide) rfl ?_
  refine zz_E.n 8 rfl rfl rfl ?_
  refine zz_E.cl (M' := zm_21) 11 rfl rfl (by decide) rfl rfl ⟨rfl, Nat.le_of_ble_eq_true rfl⟩ rfl ?_
  refine zz_E.n 1 rfl rfl rfl ?_
  refine zz_E.jf 4 rfl (by rfl) (by decide) rfl ?_
  refine zz_E.n 5 rfl rfl rfl ?_
  refine zz_E.n 7 rfl rfl rfl ?_
  refine zz_E.kf 10 rfl (by rfl) (by decide) rfl ?_
  refine zz_E.n 11 rfl rfl rfl ?_
  refine zz_E.n 15 rfl rfl rfl ?_
  refine zz_E.ret rfl rfl rfl ?_
  refine zz_E.jf 14 rfl (by rfl) (by decide) rfl ?_
  refine zz_E.n 15 rfl rfl rfl ?_
  refine zz_E.n 18 rfl rfl rfl ?_
  refine zz_E.n 19 rfl rfl rfl ?_
  refine zz_E.n 20 rfl rfl rfl ?_
  refine zz_E.cl (M' := zm_27) 23 rfl rfl (by decide) rfl rfl ⟨rfl, Nat.le_of_ble_eq_true rfl⟩ rfl ?_
  refine zz_E.n 1 rfl rfl rfl ?_
  refine zz_E.n 4 rfl rfl rfl ?_
  refine zz_E.n 5 rfl rfl rfl ?_
  refine zz_E.n 6 rfl rfl rfl ?_
  refine zz_E.n 7 rfl rfl rfl ?_
  refine zz_E.n 10 rfl rfl rfl ?_
  refine zz_E.n 11 rfl rfl rfl ?_
  refine zz_E.n 12 rfl rfl rfl ?_
  refine zz_E.kf 15 rfl (by rfl) (by decide) rfl ?_
  refine zz_E.n 16 rfl rfl rfl ?_
  refine zz_E.n 20 rfl rfl rfl ?_
  refine zz_E.n 21 rfl rfl rfl ?_
  refine zz_E.n 22 rfl rfl rfl ?_
  refine zz_E.n 24 rfl rfl rfl ?_
  refine zz_E.n 26 rfl rfl rfl ?_
  refine zz_E.n 27 rfl rfl rfl ?_
  refine zz_E.n 30 rfl rfl rfl ?_
  refine zz_E.n 31 rfl rfl rfl ?_
  refine zz_E.n 32 rfl rfl rfl ?_
  refine zz_E.kt 72 rfl (by rfl) (by decide) rfl ?_
  refine zz_E.n 73 rfl rfl rfl ?_
  refine zz_E.ret rfl rfl rfl ?_
  refine zz_E.jf 26 rfl (by rfl) (by decide) rfl ?_
  refine zz_E.n 27 rfl rfl rfl ?_
  refine zz_E.n 31 rfl rfl rfl ?_
  refine zz_E.ret rfl rfl rfl ?_
  refine zz_E.n 594 rfl rfl rfl ?_
  refine zz_E.n 595 rfl rfl rfl ?_
  refine zz_E.n 596 rfl rfl rfl ?_
  refine zz_E.n 597 rfl rfl rfl ?_
  refine zz_E.n 598 rfl rfl rfl ?_
  refine zz_E.n 599 rfl rfl rfl ?_
  refine zz_E.n 600 rfl rfl rfl ?_
  refine zz_E.n 601 rfl rfl rfl ?_
  refine zz_E.n 602 rfl rfl rfl ?_
  refine zz_E.n 603 rfl rfl rfl ?_
  refine zz_E.n 604 rfl rfl rfl ?_
  refine zz_E.cl (M' := zm_82) 607 rfl rfl (by decide) rfl rfl ⟨rfl, Nat.le_of_ble_eq_true rfl⟩ rfl ?_
  refine zz_E.n 1 rfl rfl rfl ?_
  refine zz_E.cl (M' := zm_73) 4 rfl rfl (by decide) rfl rfl ⟨rfl, Nat.le_of_ble_eq_true rfl⟩ rfl ?_
  refine zz_E.n 1 rfl rfl rfl ?_
  refine zz_E.jf 4 rfl (by rfl) (by decide) rfl ?_
  refine zz_E.n 5 rfl rfl rfl ?_
  refine zz_E.n 7 rfl rfl rfl ?_
  refine zz_E.kf 10 rfl (by rfl) (by decide) rfl ?_
  refine zz_E.n 11 rfl rfl rfl ?_
  refine zz_E.n 15 rfl rfl rfl ?_
  refine zz_E.ret rfl rfl rfl ?_
  refine zz_E.jf 7 rfl (by rfl) (by decide) rfl ?_
  refine zz_E.n 8 rfl rfl rfl ?_
  refine zz_E.cl (M' := zm_73) 11 rfl rfl (by decide) rfl rfl ⟨rfl, Nat.le_of_ble_eq_true rfl⟩ rfl ?_
  refine zz_E.n 1 rfl rfl rfl ?_
  refine zz_E.jf 4 rfl (by rfl) (by decide) rfl ?_
  refine zz_E.n 5 rfl rfl rfl ?_
  refine zz_E.n 7 rfl rfl rfl ?_
  refine zz_E.kf 10 rfl (by rfl) (by decide) rfl ?_
  refine zz_E.n 11 rfl rfl rfl ?_
  refine zz_E.n 15 rfl rfl rfl ?_
  refine zz_E.ret rfl rfl rfl ?_
  refine zz_E.jt 16 rfl (by rfl) (by decide) rfl ?_
  refine zz_E.n 19 rfl rfl rfl ?_
  refine zz_E.n 20 rfl rfl rfl ?_
  refine zz_E.n 21 rfl rfl rfl ?_
  refine zz_E.n 22 rfl rfl rfl ?_
  refine zz_E.n 25 rfl rfl rfl ?_
  refine zz_E.n 26 rfl rfl rfl ?_
  refine zz_E.n 27 rfl rfl rfl ?_
  refine zz_E.n 29 rfl rfl rfl ?_
  refine zz_E.n 30 rfl rfl rfl ?_
  refine zz_E.n 33 rfl rfl rfl ?_
  refine zz_E.n 34 rfl rfl rfl ?_
  refine zz_E.n 35 rfl rfl rfl ?_
  refine zz_E.jt 48 rfl (by rfl) (by decide) rfl ?_
  refine zz_E.n 49 rfl rfl rfl ?_
  refine zz_E.n 52 rfl rfl rfl ?_
  refine zz_E.n 53 rfl rfl rfl ?_
  refine zz_E.n 54 rfl rfl rfl ?_
  refine zz_E.n 55 rfl rfl rfl ?_
  refine zz_E.n 58 rfl rfl rfl ?_
  refine zz_E.n 60 rfl rfl rfl ?_
  refine zz_E.n 61 rfl rfl rfl ?_
  refine zz_E.kf 64 rfl (by rfl) (by decide) rfl ?_
  refine zz_E.n 65 rfl rfl rfl ?_
  refine zz_E.n 68 rfl rfl rfl ?_
  refine zz_E.n 69 rfl rfl rfl ?_
  refine zz_E.n 70 rfl rfl rfl ?_
  refine zz_E.jt 93 rfl (by rfl) (by decide) rfl ?_
  refine zz_E.n 94 rfl rfl rfl ?_
  refine zz_E.n 98 rfl rfl rfl ?_
  refine zz_E.ret rfl rfl rfl ?_
  refine zz_E.kt 652 rfl (by rfl) (by decide) rfl ?_
  refine zz_E.n 655 rfl rfl rfl ?_
  refine zz_E.n 18 rfl rfl rfl ?_
  refine zz_E.n 19 rfl rfl rfl ?_
  refine zz_E.n 20 rfl rfl rfl ?_
  refine zz_E.n 21 rfl rfl rfl ?_
  refine zz_E.n 23 rfl rfl rfl ?_
  refine zz_E.n 24 rfl rfl rfl ?_
  refine zz_E.kt 658 rfl (by rfl) (by decide) rfl ?_
  refine zz_E.n 659 rfl rfl rfl ?_
  refine zz_E.ret rfl rfl rfl ?_
  exact ⟨rfl, by decide +kernel, by decide +kernel⟩
set_option maxRecDepth 100000 in
set_option maxHeartbeats 8000000 in
theorem zv_k15_7_5 (xs : Nat → Int32) : zz_E zp_P zt_tf zt_fd (zt_X 6 (fun q => if q = 1 then nI 7 else if q = 2 then nI 5 else xs q)) 1000 zm_law 33 zv_L [.int (nI 15)] zv_h zv_Q := by
  refine zz_E.n 579 rfl rfl rfl ?_
  refine zz_E.n 580 rfl rfl rfl ?_
  refine zz_E.n 581 rfl rfl rfl ?_
  refine zz_E.n 582 rfl rfl rfl ?_
  refine zz_E.n 583 rfl rfl rfl ?_
  refine zz_E.n 584 rfl rfl rfl ?_
  refine zz_E.n 585 rfl rfl rfl ?_
  refine zz_E.n 586 rfl rfl rfl ?_
  refine zz_E.n 587 rfl rfl rfl ?_
  refine zz_E.n 588 rfl rfl rfl ?_
  refine zz_E.n 589 rfl rfl rfl ?_
  refine zz_E.n 590 rfl rfl rfl ?_
  refine zz_E.cl (M' := zm_17) 593 rfl rfl (by decide) rfl rfl ⟨rfl, Nat.le_of_ble_eq_true rfl⟩ rfl ?_
  refine zz_E.n 1 rfl rfl rfl ?_
  refine zz_E.cl (M' := zm_21) 4 rfl rfl (by decide) rfl rfl ⟨rfl, Nat.le_of_ble_eq_true rfl⟩ rfl ?_
  refine zz_E.n 1 rfl rfl rfl ?_
  refine zz_E.jf 4 rfl (by rfl) (by decide) rfl ?_
  refine zz_E.n 5 rfl rfl rfl ?_
  refine zz_E.n 7 rfl rfl rfl ?_
  refine zz_E.kf 10 rfl (by rfl) (by decide) rfl ?_
  refine zz_E.n 11 rfl rfl rfl ?_
  refine zz_E.n 15 rfl rfl rfl ?_
  refine zz_E.ret rfl rfl rfl ?_
  refine zz_E.jf 7 rfl (by rfl) (by decide) rfl ?_
  refine zz_E.n 8 rfl rfl rfl ?_
  refine zz_E.cl (M' := zm_21) 11 rfl rfl (by decide) rfl rfl ⟨rfl, Nat.le_of_ble_eq_true rfl⟩ rfl ?_
  refine zz_E.n 1 rfl rfl rfl ?_
  refine zz_E.jf 4 rfl (by rfl) (by decide) rfl ?_
  refine zz_E.n 5 rfl rfl rfl ?_
  refine zz_E.n 7 rfl rfl rfl ?_
  refine zz_E.kf 10 rfl (by rfl) (by decide) rfl ?_
  refine zz_E.n 11 rfl rfl rfl ?_
  refine zz_E.n 15 rfl rfl rfl ?_
  refine zz_E.ret rfl rfl rfl ?_
  refine zz_E.jf 14 rfl (by rfl) (by decide) rfl ?_
  refine zz_E.n 15 rfl rfl rfl ?_
  refine zz_E.n 18 rfl rfl rfl ?_
  refine zz_E.n 19 rfl rfl rfl ?_
  refine zz_E.n 20 rfl rfl rfl ?_
  refine zz_E.cl (M' := zm_27) 23 rfl rfl (by decide) rfl rfl ⟨rfl, Nat.le_of_ble_eq_true rfl⟩ rfl ?_
  refine zz_E.n 1 rfl rfl rfl ?_
  refine zz_E.n 4 rfl rfl rfl ?_
  refine zz_E.n 5 rfl rfl rfl ?_
  refine zz_E.n 6 rfl rfl rfl ?_
  refine zz_E.n 7 rfl rfl rfl ?_
  refine zz_E.n 10 rfl rfl rfl ?_
  refine zz_E.n 11 rfl rfl rfl ?_
  refine zz_E.n 12 rfl rfl rfl ?_
  refine zz_E.kf 15 rfl (by rfl) (by decide) rfl ?_
  refine zz_E.n 16 rfl rfl rfl ?_
  refine zz_E.n 20 rfl rfl rfl ?_
  refine zz_E.n 21 rfl rfl rfl ?_
  refine zz_E.n 22 rfl rfl rfl ?_
  refine zz_E.n 24 rfl rfl rfl ?_
  refine zz_E.n 26 rfl rfl rfl ?_
  refine zz_E.n 27 rfl rfl rfl ?_
  refine zz_E.n 30 rfl rfl rfl ?_
  refine zz_E.n 31 rfl rfl rfl ?_
  refine zz_E.n 32 rfl rfl rfl ?_
  refine zz_E.kt 72 rfl (by rfl) (by decide) rfl ?_
  refine zz_E.n 73 rfl rfl rfl ?_
  refine zz_E.ret rfl rfl rfl ?_
  refine zz_E.jf 26 rfl (by rfl) (by decide) rfl ?_
  refine zz_E.n 27 rfl rfl rfl ?_
  refine zz_E.n 31 rfl rfl rfl ?_
  refine zz_E.ret rfl rfl rfl ?_
  refine zz_E.n 594 rfl rfl rfl ?_
  refine zz_E.n 595 rfl rfl rfl ?_
  refine zz_E.n 596 rfl rfl rfl ?_
  refine zz_E.n 597 rfl rfl rfl ?_
  refine zz_E.n 598 rfl rfl rfl ?_
  refine zz_E.n 599 rfl rfl rfl ?_
  refine zz_E.n 600 rfl rfl rfl ?_
  refine zz_E.n 601 rfl rfl rfl ?_
  refine zz_E.n 602 rfl rfl rfl ?_
  refine zz_E.n 603 rfl rfl rfl ?_
  refine zz_E.n 604 rfl rfl rfl ?_
  refine zz_E.cl (M' := zm_82) 607 rfl rfl (by decide) rfl rfl ⟨rfl, Nat.le_of_ble_eq_true rfl⟩ rfl ?_
  refine zz_E.n 1 rfl rfl rfl ?_
  refine zz_E.cl (M' := zm_73) 4 rfl rfl (by decide) rfl rfl ⟨rfl, Nat.le_of_ble_eq_true rfl⟩ rfl ?_
  refine zz_E.n 1 rfl rfl rfl ?_
  refine zz_E.jf 4 rfl (by rfl) (by decide) rfl ?_
  refine zz_E.n 5 rfl rfl rfl ?_
  refine zz_E.n 7 rfl rfl rfl ?_
  refine zz_E.kf 10 rfl (by rfl) (by decide) rfl ?_
  refine zz_E.n 11 rfl rfl rfl ?_
  refine zz_E.n 15 rfl rfl rfl ?_
  refine zz_E.ret rfl rfl rfl ?_
  refine zz_E.jf 7 rfl (by rfl) (by decide) rfl ?_
  refine zz_E.n 8 rfl rfl rfl ?_
  refine zz_E.cl (M' := zm_73) 11 rfl rfl (by decide) rfl rfl ⟨rfl, Nat.le_of_ble_eq_true rfl⟩ rfl ?_
  refine zz_E.n 1 rfl rfl rfl ?_
  refine zz_E.jf 4 rfl (by rfl) (by decide) rfl ?_
  refine zz_E.n 5 rfl rfl rfl ?_
  refine zz_E.n 7 rfl rfl rfl ?_
  refine zz_E.kf 10 rfl (by rfl) (by decide) rfl ?_
  refine zz_E.n 11 rfl rfl rfl ?_
  refine zz_E.n 15 rfl rfl rfl ?_
  refine zz_E.ret rfl rfl rfl ?_
  refine zz_E.jt 16 rfl (by rfl) (by decide) rfl ?_
  refine zz_E.n 19 rfl rfl rfl ?_
  refine zz_E.n 20 rfl rfl rfl ?_
  refine zz_E.n 21 rfl rfl rfl ?_
  refine zz_E.n 22 rfl rfl rfl ?_
  refine zz_E.n 25 rfl rfl rfl ?_
  refine zz_E.n 26 rfl rfl rfl ?_
  refine zz_E.n 27 rfl rfl rfl ?_
  refine zz_E.n 29 rfl rfl rfl ?_
  refine zz_E.n 30 rfl rfl rfl ?_
  refine zz_E.n 33 rfl rfl rfl ?_
  refine zz_E.n 34 rfl rfl rfl ?_
  refine zz_E.n 35 rfl rfl rfl ?_
  refine zz_E.jt 48 rfl (by rfl) (by decide) rfl ?_
  refine zz_E.n 49 rfl rfl rfl ?_
  refine zz_E.n 52 rfl rfl rfl ?_
  refine zz_E.n 53 rfl rfl rfl ?_
  refine zz_E.n 54 rfl rfl rfl ?_
  refine zz_E.n 55 rfl rfl rfl ?_
  refine zz_E.n 58 rfl rfl rfl ?_
  refine zz_E.n 60 rfl rfl rfl ?_
  refine zz_E.n 61 rfl rfl rfl ?_
  refine zz_E.kf 64 rfl (by rfl) (by decide) rfl ?_
  refine zz_E.n 65 rfl rfl rfl ?_
  refine zz_E.n 68 rfl rfl rfl ?_
  refine zz_E.n 69 rfl rfl rfl ?_
  refine zz_E.n 70 rfl rfl rfl ?_
  refine zz_E.jt 93 rfl (by rfl) (by decide) rfl ?_
  refine zz_E.n 94 rfl rfl rfl ?_
  refine zz_E.n 98 rfl rfl rfl ?_
  refine zz_E.ret rfl rfl rfl ?_
  refine zz_E.kt 652 rfl (by rfl) (by decide) rfl ?_
  refine zz_E.n 655 rfl rfl rfl ?_
  refine zz_E.n 18 rfl rfl rfl ?_
  refine zz_E.n 19 rfl rfl rfl ?_
  refine zz_E.n 20 rfl rfl rfl ?_
  refine zz_E.n 21 rfl rfl rfl ?_
  refine zz_E.n 23 rfl rfl rfl ?_
  refine zz_E.n 24 rfl rfl rfl ?_
  refine zz_E.kt 658 rfl (by rfl) (by decide) rfl ?_
  refine zz_E.n 659 rfl rfl rfl ?_
  refine zz_E.ret rfl rfl rfl ?_
  exact ⟨rfl, by decide +kernel, by decide +kernel⟩
set_option maxRecDepth 100000 in
set_option maxHeartbeats 8000000 in
theorem zv_k15_7_6 (xs : Nat → Int32) : zz_E zp_P zt_tf zt_fd (zt_X 6 (fun q => if q = 1 then nI 7 else if q = 2 then nI 6 else xs q)) 1000 zm_law 33 zv_L [.int (nI 15)] zv_h zv_Q := by
  refine zz_E.n 579 rfl rfl rfl ?_
  refine zz_E.n 580 rfl rfl rfl ?_
  refine zz_E.n 581 rfl rfl rfl ?_
  refine zz_E.n 582 rfl rfl rfl ?_
  refine zz_E.n 583 rfl rfl rfl ?_
  refine zz_E.n 584 rfl rfl rfl ?_
  refine zz_E.n 585 rfl rfl rfl ?_
  refine zz_E.n 586 rfl rfl rfl ?_
  refine zz_E.n 587 rfl rfl rfl ?_
  refine zz_E.n 588 rfl rfl rfl ?_
  refine zz_E.n 589 rfl rfl rfl ?_
  refine zz_E.n 590 rfl rfl rfl ?_
  refine zz_E.cl (M' := zm_17) 593 rfl rfl (by decide) rfl rfl ⟨rfl, Nat.le_of_ble_eq_true rfl⟩ rfl ?_
  refine zz_E.n 1 rfl rfl rfl ?_
  refine zz_E.cl (M' := zm_21) 4 rfl rfl (by decide) rfl rfl ⟨rfl, Nat.le_of_ble_eq_true rfl⟩ rfl ?_
  refine zz_E.n 1 rfl rfl rfl ?_
  refine zz_E.jf 4 rfl (by rfl) (by decide) rfl ?_
  refine zz_E.n 5 rfl rfl rfl ?_
  refine zz_E.n 7 rfl rfl rfl ?_
  refine zz_E.kf 10 rfl (by rfl) (by decide) rfl ?_
  refine zz_E.n 11 rfl rfl rfl ?_
  refine zz_E.n 15 rfl rfl rfl ?_
  refine zz_E.ret rfl rfl rfl ?_
  refine zz_E.jf 7 rfl (by rfl) (by decide) rfl ?_
  refine zz_E.n 8 rfl rfl rfl ?_
  refine zz_E.cl (M' := zm_21) 11 rfl rfl (by decide) rfl rfl ⟨rfl, Nat.le_of_ble_eq_true rfl⟩ rfl ?_
  refine zz_E.n 1 rfl rfl rfl ?_
  refine zz_E.jf 4 rfl (by rfl) (by decide) rfl ?_
  refine zz_E.n 5 rfl rfl rfl ?_
  refine zz_E.n 7 rfl rfl rfl ?_
  refine zz_E.kf 10 rfl (by rfl) (by decide) rfl ?_
  refine zz_E.n 11 rfl rfl rfl ?_
  refine zz_E.n 15 rfl rfl rfl ?_
  refine zz_E.ret rfl rfl rfl ?_
  refine zz_E.jf 14 rfl (by rfl) (by decide) rfl ?_
  refine zz_E.n 15 rfl rfl rfl ?_
  refine zz_E.n 18 rfl rfl rfl ?_
  refine zz_E.n 19 rfl rfl rfl ?_
  refine zz_E.n 20 rfl rfl rfl ?_
  refine zz_E.cl (M' := zm_27) 23 rfl rfl (by decide) rfl rfl ⟨rfl, Nat.le_of_ble_eq_true rfl⟩ rfl ?_
  refine zz_E.n 1 rfl rfl rfl ?_
  refine zz_E.n 4 rfl rfl rfl ?_
  refine zz_E.n 5 rfl rfl rfl ?_
  refine zz_E.n 6 rfl rfl rfl ?_
  refine zz_E.n 7 rfl rfl rfl ?_
  refine zz_E.n 10 rfl rfl rfl ?_
  refine zz_E.n 11 rfl rfl rfl ?_
  refine zz_E.n 12 rfl rfl rfl ?_
  refine zz_E.kf 15 rfl (by rfl) (by decide) rfl ?_
  refine zz_E.n 16 rfl rfl rfl ?_
  refine zz_E.n 20 rfl rfl rfl ?_
  refine zz_E.n 21 rfl rfl rfl ?_
  refine zz_E.n 22 rfl rfl rfl ?_
  refine zz_E.n 24 rfl rfl rfl ?_
  refine zz_E.n 26 rfl rfl rfl ?_
  refine zz_E.n 27 rfl rfl rfl ?_
  refine zz_E.n 30 rfl rfl rfl ?_
  refine zz_E.n 31 rfl rfl rfl ?_
  refine zz_E.n 32 rfl rfl rfl ?_
  refine zz_E.kt 72 rfl (by rfl) (by decide) rfl ?_
  refine zz_E.n 73 rfl rfl rfl ?_
  refine zz_E.ret rfl rfl rfl ?_
  refine zz_E.jf 26 rfl (by rfl) (by decide) rfl ?_
  refine zz_E.n 27 rfl rfl rfl ?_
  refine zz_E.n 31 rfl rfl rfl ?_
  refine zz_E.ret rfl rfl rfl ?_
  refine zz_E.n 594 rfl rfl rfl ?_
  refine zz_E.n 595 rfl rfl rfl ?_
  refine zz_E.n 596 rfl rfl rfl ?_
  refine zz_E.n 597 rfl rfl rfl ?_
  refine zz_E.n 598 rfl rfl rfl ?_
  refine zz_E.n 599 rfl rfl rfl ?_
  refine zz_E.n 600 rfl rfl rfl ?_
  refine zz_E.n 601 rfl rfl rfl ?_
  refine zz_E.n 602 rfl rfl rfl ?_
  refine zz_E.n 603 rfl rfl rfl ?_
  refine zz_E.n 604 rfl rfl rfl ?_
  refine zz_E.cl (M' := zm_82) 607 rfl rfl (by decide) rfl rfl ⟨rfl, Nat.le_of_ble_eq_true rfl⟩ rfl ?_
  refine zz_E.n 1 rfl rfl rfl ?_
  refine zz_E.cl (M' := zm_73) 4 rfl rfl (by decide) rfl rfl ⟨rfl, Nat.le_of_ble_eq_true rfl⟩ rfl ?_
  refine zz_E.n 1 rfl rfl rfl ?_
  refine zz_E.jf 4 rfl (by rfl) (by decide) rfl ?_
  refine zz_E.n 5 rfl rfl rfl ?_
  refine zz_E.n 7 rfl rfl rfl ?_
  refine zz_E.kf 10 rfl (by rfl) (by decide) rfl ?_
  refine zz_E.n 11 rfl rfl rfl ?_
  refine zz_E.n 15 rfl rfl rfl ?_
  refine zz_E.ret rfl rfl rfl ?_
  refine zz_E.jf 7 rfl (by rfl) (by decide) rfl ?_
  refine zz_E.n 8 rfl rfl rfl ?_
  refine zz_E.cl (M' := zm_73) 11 rfl rfl (by decide) rfl rfl ⟨rfl, Nat.le_of_ble_eq_true rfl⟩ rfl ?_
  refine zz_E.n 1 rfl rfl rfl ?_
  refine zz_E.jf 4 rfl (by rfl) (by decide) rfl ?_
  refine zz_E.n 5 rfl rfl rfl ?_
  refine zz_E.n 7 rfl rfl rfl ?_
  refine zz_E.kf 10 rfl (by rfl) (by decide) rfl ?_
  refine zz_E.n 11 rfl rfl rfl ?_
  refine zz_E.n 15 rfl rfl rfl ?_
  refine zz_E.ret rfl rfl rfl ?_
  refine zz_E.jt 16 rfl (by rfl) (by decide) rfl ?_
  refine zz_E.n 19 rfl rfl rfl ?_
  refine zz_E.n 20 rfl rfl rfl ?_
  refine zz_E.n 21 rfl rfl rfl ?_
  refine zz_E.n 22 rfl rfl rfl ?_
  refine zz_E.n 25 rfl rfl rfl ?_
  refine zz_E.n 26 rfl rfl rfl ?_
  refine zz_E.n 27 rfl rfl rfl ?_
  refine zz_E.n 29 rfl rfl rfl ?_
  refine zz_E.n 30 rfl rfl rfl ?_
  refine zz_E.n 33 rfl rfl rfl ?_
  refine zz_E.n 34 rfl rfl rfl ?_
  refine zz_E.n 35 rfl rfl rfl ?_
  refine zz_E.jt 48 rfl (by rfl) (by decide) rfl ?_
  refine zz_E.n 49 rfl rfl rfl ?_
  refine zz_E.n 52 rfl rfl rfl ?_
  refine zz_E.n 53 rfl rfl rfl ?_
  refine zz_E.n 54 rfl rfl rfl ?_
  refine zz_E.n 55 rfl rfl rfl ?_
  refine zz_E.n 58 rfl rfl rfl ?_
  refine zz_E.n 60 rfl rfl rfl ?_
  refine zz_E.n 61 rfl rfl rfl ?_
  refine zz_E.kf 64 rfl (by rfl) (by decide) rfl ?_
  refine zz_E.n 65 rfl rfl rfl ?_
  refine zz_E.n 68 rfl rfl rfl ?_
  refine zz_E.n 69 rfl rfl rfl ?_
  refine zz_E.n 70 rfl rfl rfl ?_
  refine zz_E.jt 93 rfl (by rfl) (by decide) rfl ?_
  refine zz_E.n 94 rfl rfl rfl ?_
  refine zz_E.n 98 rfl rfl rfl ?_
  refine zz_E.ret rfl rfl rfl ?_
  refine zz_E.kt 652 rfl (by rfl) (by decide) rfl ?_
  refine zz_E.n 655 rfl rfl rfl ?_
  refine zz_E.n 18 rfl rfl rfl ?_
  refine zz_E.n 19 rfl rfl rfl ?_
  refine zz_E.n 20 rfl rfl rfl ?_
  refine zz_E.n 21 rfl rfl rfl ?_
  refine zz_E.n 23 rfl rfl rfl ?_
  refine zz_E.n 24 rfl rfl rfl ?_
  refine zz_E.kt 658 rfl (by rfl) (by decide) rfl ?_
  refine zz_E.n 659 rfl rfl rfl ?_
  refine zz_E.ret rfl rfl rfl ?_
  exact ⟨rfl, by decide +kernel, by decide +kernel⟩
set_option maxRecDepth 100000 in
set_option maxHeartbeats 8000000 in
theorem zv_k15_7_7 (xs : Nat → Int32) : zz_E zp_P zt_tf zt_fd (zt_X 6 (fun q => if q = 1 then nI 7 else if q = 2 then nI 7 else xs q)) 1000 zm_law 33 zv_L [.int (nI 15)] zv_h zv_Q := by
  refine zz_E.n 579 rfl rfl rfl ?_
  refine zz_E.n 580 rfl rfl rfl ?_
  refine zz_E.n 581 rfl rfl rfl ?_
  refine zz_E.n 582 rfl rfl rfl ?_
  refine zz_E.n 583 rfl rfl rfl ?_
  refine zz_E.n 584 rfl rfl rfl ?_
  refine zz_E.n 585 rfl rfl rfl ?_
  refine zz_E.n 586 rfl rfl rfl ?_
  refine zz_E.n 587 rfl rfl rfl ?_
  refine zz_E.n 588 rfl rfl rfl ?_
  refine zz_E.n 589 rfl rfl rfl ?_
  refine zz_E.n 590 rfl rfl rfl ?_
  refine zz_E.cl (M' := zm_17) 593 rfl rfl (by decide) rfl rfl ⟨rfl, Nat.le_of_ble_eq_true rfl⟩ rfl ?_
  refine zz_E.n 1 rfl rfl rfl ?_
  refine zz_E.cl (M' := zm_21) 4 rfl rfl (by decide) rfl rfl ⟨rfl, Nat.le_of_ble_eq_true rfl⟩ rfl ?_
  refine zz_E.n 1 rfl rfl rfl ?_
  refine zz_E.jf 4 rfl (by rfl) (by decide) rfl ?_
  refine zz_E.n 5 rfl rfl rfl ?_
  refine zz_E.n 7 rfl rfl rfl ?_
  refine zz_E.kf 10 rfl (by rfl) (by decide) rfl ?_
  refine zz_E.n 11 rfl rfl rfl ?_
  refine zz_E.n 15 rfl rfl rfl ?_
  refine zz_E.ret rfl rfl rfl ?_
  refine zz_E.jf 7 rfl (by rfl) (by decide) rfl ?_
  refine zz_E.n 8 rfl rfl rfl ?_
  refine zz_E.cl (M' := zm_21) 11 rfl rfl (by decide) rfl rfl ⟨rfl, Nat.le_of_ble_eq_true rfl⟩ rfl ?_
  refine zz_E.n 1 rfl rfl rfl ?_
  refine zz_E.jf 4 rfl (by rfl) (by decide) rfl ?_
  refine zz_E.n 5 rfl rfl rfl ?_
  refine zz_E.n 7 rfl rfl rfl ?_
  refine zz_E.kf 10 rfl (by rfl) (by decide) rfl ?_
  refine zz_E.n 11 rfl rfl rfl ?_
  refine zz_E.n 15 rfl rfl rfl ?_
  refine zz_E.ret rfl rfl rfl ?_
  refine zz_E.jf 14 rfl (by rfl) (by decide) rfl ?_
  refine zz_E.n 15 rfl rfl rfl ?_
  refine zz_E.n 18 rfl rfl rfl ?_
  refine zz_E.n 19 rfl rfl rfl ?_
  refine zz_E.n 20 rfl rfl rfl ?_
  refine zz_E.cl (M' := zm_27) 23 rfl rfl (by decide) rfl rfl ⟨rfl, Nat.le_of_ble_eq_true rfl⟩ rfl ?_
  refine zz_E.n 1 rfl rfl rfl ?_
  refine zz_E.n 4 rfl rfl rfl ?_
  refine zz_E.n 5 rfl rfl rfl ?_
  refine zz_E.n 6 rfl rfl rfl ?_
  refine zz_E.n 7 rfl rfl rfl ?_
  refine zz_E.n 10 rfl rfl rfl ?_
  refine zz_E.n 11 rfl rfl rfl ?_
  refine zz_E.n 12 rfl rfl rfl ?_
  refine zz_E.kf 15 rfl (by rfl) (by decide) rfl ?_
  refine zz_E.n 16 rfl rfl rfl ?_
  refine zz_E.n 20 rfl rfl rfl ?_
  refine zz_E.n 21 rfl rfl rfl ?_
  refine zz_E.n 22 rfl rfl rfl ?_
  refine zz_E.n 24 rfl rfl rfl ?_
  refine zz_E.n 26 rfl rfl rfl ?_
  refine zz_E.n 27 rfl rfl rfl ?_
  refine zz_E.n 30 rfl rfl rfl ?_
  refine zz_E.n 31 rfl rfl rfl ?_
  refine zz_E.n 32 rfl rfl rfl ?_
  refine zz_E.kt 72 rfl (by rfl) (by decide) rfl ?_
  refine zz_E.n 73 rfl rfl rfl ?_
  refine zz_E.ret rfl rfl rfl ?_
  refine zz_E.jf 26 rfl (by rfl) (by decide) rfl ?_
  refine zz_E.n 27 rfl rfl rfl ?_
  refine zz_E.n 31 rfl rfl rfl ?_
  refine zz_E.ret rfl rfl rfl ?_
  refine zz_E.n 594 rfl rfl rfl ?_
  refine zz_E.n 595 rfl rfl rfl ?_
  refine zz_E.n 596 rfl rfl rfl ?_
  refine zz_E.n 597 rfl rfl rfl ?_
  refine zz_E.n 598 rfl rfl rfl ?_
  refine zz_E.n 599 rfl rfl rfl ?_
  refine zz_E.n 600 rfl rfl rfl ?_
  refine zz_E.n 601 rfl rfl rfl ?_
  refine zz_E.n 602 rfl rfl rfl ?_
  refine zz_E.n 603 rfl rfl rfl ?_
  refine zz_E.n 604 rfl rfl rfl ?_
  refine zz_E.cl (M' := zm_82) 607 rfl rfl (by decide) rfl rfl ⟨rfl, Nat.le_of_ble_eq_true rfl⟩ rfl ?_
  refine zz_E.n 1 rfl rfl rfl ?_
  refine zz_E.cl (M' := zm_73) 4 rfl rfl (by decide) rfl rfl ⟨rfl, Nat.le_of_ble_eq_true rfl⟩ rfl ?_
  refine zz_E.n 1 rfl rfl rfl ?_
  refine zz_E.jf 4 rfl (by rfl) (by decide) rfl ?_
  refine zz_E.n 5 rfl rfl rfl ?_
  refine zz_E.n 7 rfl rfl rfl ?_
  refine zz_E.kf 10 rfl (by rfl) (by decide) rfl ?_
  refine zz_E.n 11 rfl rfl rfl ?_
  refine zz_E.n 15 rfl rfl rfl ?_
  refine zz_E.ret rfl rfl rfl ?_
  refine zz_E.jf 7 rfl (by rfl) (by decide) rfl ?_
  refine zz_E.n 8 rfl rfl rfl ?_
  refine zz_E.cl (M' := zm_73) 11 rfl rfl (by decide) rfl rfl ⟨rfl, Nat.le_of_ble_eq_true rfl⟩ rfl ?_
  refine zz_E.n 1 rfl rfl rfl ?_
  refine zz_E.jf 4 rfl (by rfl) (by decide) rfl ?_
  refine zz_E.n 5 rfl rfl rfl ?_
  refine zz_E.n 7 rfl rfl rfl ?_
  refine zz_E.kf 10 rfl (by rfl) (by decide) rfl ?_
  refine zz_E.n 11 rfl rfl rfl ?_
  refine zz_E.n 15 rfl rfl rfl ?_
  refine zz_E.ret rfl rfl rfl ?_
  refine zz_E.jt 16 rfl (by rfl) (by decide) rfl ?_
  refine zz_E.n 19 rfl rfl rfl ?_
  refine zz_E.n 20 rfl rfl rfl ?_
  refine zz_E.n 21 rfl rfl rfl ?_
  refine zz_E.n 22 rfl rfl rfl ?_
  refine zz_E.n 25 rfl rfl rfl ?_
  refine zz_E.n 26 rfl rfl rfl ?_
  refine zz_E.n 27 rfl rfl rfl ?_
  refine zz_E.n 29 rfl rfl rfl ?_
  refine zz_E.n 30 rfl rfl rfl ?_
  refine zz_E.n 33 rfl rfl rfl ?_
  refine zz_E.n 34 rfl rfl rfl ?_
  refine zz_E.n 35 rfl rfl rfl ?_
  refine zz_E.jt 48 rfl (by rfl) (by decide) rfl ?_
  refine zz_E.n 49 rfl rfl rfl ?_
  refine zz_E.n 52 rfl rfl rfl ?_
  refine zz_E.n 53 rfl rfl rfl ?_
  refine zz_E.n 54 rfl rfl rfl ?_
  refine zz_E.n 55 rfl rfl rfl ?_
  refine zz_E.n 58 rfl rfl rfl ?_
  refine zz_E.n 60 rfl rfl rfl ?_
  refine zz_E.n 61 rfl rfl rfl ?_
  refine zz_E.kf 64 rfl (by rfl) (by decide) rfl ?_
  refine zz_E.n 65 rfl rfl rfl ?_
  refine zz_E.n 68 rfl rfl rfl ?_
  refine zz_E.n 69 rfl rfl rfl ?_
  refine zz_E.n 70 rfl rfl rfl ?_
  refine zz_E.jt 93 rfl (by rfl) (by decide) rfl ?_
  refine zz_E.n 94 rfl rfl rfl ?_
  refine zz_E.n 98 rfl rfl rfl ?_
  refine zz_E.ret rfl rfl rfl ?_
  refine zz_E.kt 652 rfl (by rfl) (by decide) rfl ?_
  refine zz_E.n 655 rfl rfl rfl ?_
  refine zz_E.n 18 rfl rfl rfl ?_
  refine zz_E.n 19 rfl rfl rfl ?_
  refine zz_E.n 20 rfl rfl rfl ?_
  refine zz_E.n 21 rfl rfl rfl ?_
  refine zz_E.n 23 rfl rfl rfl ?_
  refine zz_E.n 24 rfl rfl rfl ?_
  refine zz_E.kt 658 rfl (by rfl) (by decide) rfl ?_
  refine zz_E.n 659 rfl rfl rfl ?_
  refine zz_E.ret rfl rfl rfl ?_
  exact ⟨rfl, by decide +kernel, by decide +kernel⟩
set_option maxRecDepth 100000 in
set_option maxHeartbeats 8000000 in
theorem zv_k2_0 (xs : Nat → Int32) : zz_E zp_P zt_tf zt_fd (zt_X 6 (fun q => if q = 1 then nI 0 else xs q)) 1000 zm_law 33 zv_L [.int (nI 2)] zv_h zv_Q := by
  refine zz_E.n 210 rfl rfl rfl ?_
  refine zz_E.n 211 rfl rfl rfl ?_
  refine zz_E.n 212 rfl rfl rfl ?_
  refine zz_E.n 213 rfl rfl rfl ?_
  refine zz_E.n 214 rfl rfl rfl ?_
  refine zz_E.n 215 rfl rfl rfl ?_
  refine zz_E.n 216 rfl rfl rfl ?_
  refine zz_E.cl (M' := zm_4) 219 rfl rfl (by decide) rfl rfl ⟨rfl, Nat.le_of_ble_eq_true rfl⟩ rfl ?_
  refine zz_E.n 1 rfl rfl rfl ?_
  refine zz_E.jf 4 rfl (by rfl) (by decide) rfl ?_
  refine zz_E.n 5 rfl rfl rfl ?_
  refine zz_E.n 8 rfl rfl rfl ?_
  refine zz_E.ret rfl rfl rfl ?_
  refine zz_E.n 220 rfl rfl rfl ?_
  refine zz_E.n 221 rfl rfl rfl ?_
  refine zz_E.n 222 rfl rfl rfl ?_
  refine zz_E.n 223 rfl rfl rfl ?_
  refine zz_E.n 224 rfl rfl rfl ?_
  refine zz_E.n 225 rfl rfl rfl ?_
  refine zz_E.cl (M' := zm_65) 228 rfl rfl (by decide) rfl rfl ⟨rfl, Nat.le_of_ble_eq_true rfl⟩ rfl ?_
  refine zz_E.n 1 rfl rfl rfl ?_
  refine zz_E.jf 4 rfl (by rfl) (by decide) rfl ?_
  refine zz_E.n 5 rfl rfl rfl ?_
  refine zz_E.n 8 rfl rfl rfl ?_
  refine zz_E.n 24 rfl rfl rfl ?_
  refine zz_E.ret rfl rfl rfl ?_
  refine zz_E.kt 652 rfl (by rfl) (by decide) rfl ?_
  refine zz_E.n 655 rfl rfl rfl ?_
  refine zz_E.n 18 rfl rfl rfl ?_
  refine zz_E.n 19 rfl rfl rfl ?_
  refine zz_E.n 20 rfl rfl rfl ?_
  refine zz_E.n 21 rfl rfl rfl ?_
  refine zz_E.n 23 rfl rfl rfl ?_
  refine zz_E.n 24 rfl rfl rfl ?_
  refine zz_E.kt 658 rfl (by rfl) (by decide) rfl ?_
  refine zz_E.n 659 rfl rfl rfl ?_
  refine zz_E.ret rfl rfl rfl ?_
  exact ⟨rfl, by decide +kernel, by decide +kernel⟩
set_option maxRecDepth 100000 in
set_option maxHeartbeats 8000000 in
theorem zv_k2_1 (xs : Nat → Int32) : zz_E zp_P zt_tf zt_fd (zt_X 6 (fun q => if q = 1 then nI 1 else xs q)) 1000 zm_law 33 zv_L [.int (nI 2)] zv_h zv_Q := by
  refine zz_E.n 210 rfl rfl rfl ?_
  refine zz_E.n 211 rfl rfl rfl ?_
  refine zz_E.n 212 rfl rfl rfl ?_
  refine zz_E.n 213 rfl rfl rfl ?_
  refine zz_E.n 214 rfl rfl rfl ?_
  refine zz_E.n 215 rfl rfl rfl ?_
  refine zz_E.n 216 rfl rfl rfl ?_
  refine zz_E.cl (M' := zm_4) 219 rfl rfl (by decide) rfl rfl ⟨rfl, Nat.le_of_ble_eq_true rfl⟩ rfl ?_
  refine zz_E.n 1 rfl rfl rfl ?_
  refine zz_E.jt 9 rfl (by rfl) (by decide) rfl ?_
  refine zz_E.n 10 rfl rfl rfl ?_
  refine zz_E.n 11 rfl rfl rfl ?_
  refine zz_E.kf 14 rfl (by rfl) (by decide) rfl ?_
  refine zz_E.n 15 rfl rfl rfl ?_
  refine zz_E.n 18 rfl rfl rfl ?_
  refine zz_E.n 22 rfl rfl rfl ?_
  refine zz_E.ret rfl rfl rfl ?_
  refine zz_E.n 220 rfl rfl rfl ?_
  refine zz_E.n 221 rfl rfl rfl ?_
  refine zz_E.n 222 rfl rfl rfl ?_
  refine zz_E.n 223 rfl rfl rfl ?_
  refine zz_E.n 224 rfl rfl rfl ?_
  refine zz_E.n 225 rfl rfl rfl ?_
  refine zz_E.cl (M' := zm_65) 228 rfl rfl (by decide) rfl rfl ⟨rfl, Nat.le_of_ble_eq_true rfl⟩ rfl ?_
  refine zz_E.n 1 rfl rfl rfl ?_
  refine zz_E.jt 11 rfl (by rfl) (by decide) rfl ?_
  refine zz_E.n 12 rfl rfl rfl ?_
  refine zz_E.n 13 rfl rfl rfl ?_
  refine zz_E.kf 16 rfl (by rfl) (by decide) rfl ?_
  refine zz_E.n 17 rfl rfl rfl ?_
  refine zz_E.n 20 rfl rfl rfl ?_
  refine zz_E.n 24 rfl rfl rfl ?_
  refine zz_E.ret rfl rfl rfl ?_
  refine zz_E.kt 652 rfl (by rfl) (by decide) rfl ?_
  refine zz_E.n 655 rfl rfl rfl ?_
  refine zz_E.n 18 rfl rfl rfl ?_
  refine zz_E.n 19 rfl rfl rfl ?_
  refine zz_E.n 20 rfl rfl rfl ?_
  refine zz_E.n 21 rfl rfl rfl ?_
  refine zz_E.n 23 rfl rfl rfl ?_
  refine zz_E.n 24 rfl rfl rfl ?_
  refine zz_E.kt 658 rfl (by rfl) (by decide) rfl ?_
  refine zz_E.n 659 rfl rfl rfl ?_
  refine zz_E.ret rfl rfl rfl ?_
  exact ⟨rfl, by decide +kernel, by decide +kernel⟩
