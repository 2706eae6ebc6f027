set_option maxRecDepth 100000 in
set_option maxHeartbeats 8000000 in
theorem zv_n8 (xs : Nat → Int32) (h0 : zz_cond .lt (xs 1) 0 = true) : zz_E zp_P zt_tf zt_fd (zt_X 6 xs) 1000 zm_law 33 zv_L [.int (nI 8)] zv_h zv_Q := by
  refine zz_E.n 368 rfl rfl rfl ?_
  refine zz_E.n 369 rfl rfl rfl ?_
  refine zz_E.n 370 rfl rfl rfl ?_
  refine zz_E.n 371 rfl rfl rfl ?_
  refine zz_E.n 372 rfl rfl rfl ?_
  refine zz_E.n 373 rfl rfl rfl ?_
  refine zz_E.n 374 rfl rfl rfl ?_
  refine zz_E.cl (M' := zm_10) 377 rfl rfl (by decide) rfl rfl ⟨rfl, Nat.le_of_ble_eq_true rfl⟩ rfl ?_
  refine zz_E.n 1 rfl rfl rfl ?_
  refine zz_E.cl (M' := zm_21) 4 rfl rfl (by decide) rfl rfl ⟨rfl, Nat.le_of_ble_eq_true rfl⟩ rfl ?_
  refine zz_E.n 1 rfl rfl rfl ?_
  refine zz_E.jt 14 rfl (by first | assumption | decide +kernel) (by decide) rfl ?_
  refine zz_E.n 15 rfl rfl rfl ?_
  refine zz_E.ret rfl rfl rfl ?_
  refine zz_E.jt 19 rfl (by first | assumption | decide +kernel) (by decide) rfl ?_
  refine zz_E.n 20 rfl rfl rfl ?_
  refine zz_E.ret rfl rfl rfl ?_
  refine zz_E.n 378 rfl rfl rfl ?_
  refine zz_E.n 379 rfl rfl rfl ?_
  refine zz_E.n 380 rfl rfl rfl ?_
  refine zz_E.n 381 rfl rfl rfl ?_
  refine zz_E.n 382 rfl rfl rfl ?_
  refine zz_E.n 383 rfl rfl rfl ?_
  refine zz_E.cl (M' := zm_72) 386 rfl rfl (by decide) rfl rfl ⟨rfl, Nat.le_of_ble_eq_true rfl⟩ rfl ?_
  refine zz_E.n 1 rfl rfl rfl ?_
  refine zz_E.cl (M' := zm_73) 4 rfl rfl (by decide) rfl rfl ⟨rfl, Nat.le_of_ble_eq_true rfl⟩ rfl ?_
  refine zz_E.n 1 rfl rfl rfl ?_
  refine zz_E.jt 14 rfl (by first | assumption | decide +kernel) (by decide) rfl ?_
  refine zz_E.n 15 rfl rfl rfl ?_
  refine zz_E.ret rfl rfl rfl ?_
  refine zz_E.jt 21 rfl (by first | assumption | decide +kernel) (by decide) rfl ?_
  refine zz_E.n 22 rfl rfl rfl ?_
  refine zz_E.ret rfl rfl rfl ?_
  refine zz_E.kt 652 rfl (by first | assumption | decide +kernel) (by decide) rfl ?_
  refine zz_E.n 655 rfl rfl rfl ?_
  refine zz_E.n 18 rfl rfl rfl ?_
  refine zz_E.n 19 rfl rfl rfl ?_
  refine zz_E.n 20 rfl rfl rfl ?_
  refine zz_E.n 21 rfl rfl rfl ?_
  refine zz_E.n 23 rfl rfl rfl ?_
  refine zz_E.n 24 rfl rfl rfl ?_
  refine zz_E.kt 658 rfl (by first | assumption | decide +kernel) (by decide) rfl ?_
  refine zz_E.n 659 rfl rfl rfl ?_
  refine zz_E.ret rfl rfl rfl ?_
  exact ⟨rfl, by decide +kernel, by decide +kernel⟩
set_option maxRecDepth 100000 in
set_option maxHeartbeats 8000000 in
theorem zv_g8 (xs : Nat → Int32) (h0 : zz_cond .lt (xs 1) 0 = false) (h1 : zz_cond .ge (xs 1) 8 = true) : zz_E zp_P zt_tf zt_fd (zt_X 6 xs) 1000 zm_law 33 zv_L [.int (nI 8)] zv_h zv_Q := by
  refine zz_E.n 368 rfl rfl rfl ?_
  refine zz_E.n 369 rfl rfl rfl ?_
  refine zz_E.n 370 rfl rfl rfl ?_
  refine zz_E.n 371 rfl rfl rfl ?_
  refine zz_E.n 372 rfl rfl rfl ?_
  refine zz_E.n 373 rfl rfl rfl ?_
  refine zz_E.n 374 rfl rfl rfl ?_
  refine zz_E.cl (M' := zm_10) 377 rfl rfl (by decide) rfl rfl ⟨rfl, Nat.le_of_ble_eq_true rfl⟩ rfl ?_
  refine zz_E.n 1 rfl rfl rfl ?_
  refine zz_E.cl (M' := zm_21) 4 rfl rfl (by decide) rfl rfl ⟨rfl, Nat.le_of_ble_eq_true rfl⟩ rfl ?_
  refine zz_E.n 1 rfl rfl rfl ?_
  refine zz_E.jf 4 rfl (by first | assumption | decide +kernel) (by decide) rfl ?_
  refine zz_E.n 5 rfl rfl rfl ?_
  refine zz_E.n 7 rfl rfl rfl ?_
  refine zz_E.kt 14 rfl (by first | assumption | decide +kernel) (by decide) rfl ?_
  refine zz_E.n 15 rfl rfl rfl ?_
  refine zz_E.ret rfl rfl rfl ?_
  refine zz_E.jt 19 rfl (by first | assumption | decide +kernel) (by decide) rfl ?_
  refine zz_E.n 20 rfl rfl rfl ?_
  refine zz_E.ret rfl rfl rfl ?_
  refine zz_E.n 378 rfl rfl rfl ?_
  refine zz_E.n 379 rfl rfl rfl ?_
  refine zz_E.n 380 rfl rfl rfl ?_
  refine zz_E.n 381 rfl rfl rfl ?_
  refine zz_E.n 382 rfl rfl rfl ?_
  refine zz_E.n 383 rfl rfl rfl ?_
  refine zz_E.cl (M' := zm_72) 386 rfl rfl (by decide) rfl rfl ⟨rfl, Nat.le_of_ble_eq_true rfl⟩ rfl ?_
  refine zz_E.n 1 rfl rfl rfl ?_
  refine zz_E.cl (M' := zm_73) 4 rfl rfl (by decide) rfl rfl ⟨rfl, Nat.le_of_ble_eq_true rfl⟩ rfl ?_
  refine zz_E.n 1 rfl rfl rfl ?_
  refine zz_E.jf 4 rfl (by first | assumption | decide +kernel) (by decide) rfl ?_
  refine zz_E.n 5 rfl rfl rfl ?_
  refine zz_E.n 7 rfl rfl rfl ?_
  refine zz_E.kt 14 rfl (by first | assumption | decide +kernel) (by decide) rfl ?_
  refine zz_E.n 15 rfl rfl rfl ?_
  refine zz_E.ret rfl rfl rfl ?_
  refine zz_E.jt 21 rfl (by first | assumption | decide +kernel) (by decide) rfl ?_
  refine zz_E.n 22 rfl rfl rfl ?_
  refine zz_E.ret rfl rfl rfl ?_
  refine zz_E.kt 652 rfl (by first | assumption | decide +kernel) (by decide) rfl ?_
  refine zz_E.n 655 rfl rfl rfl ?_
  refine zz_E.n 18 rfl rfl rfl ?_
  refine zz_E.n 19 rfl rfl rfl ?_
  refine zz_E.n 20 rfl rfl rfl ?_
  refine zz_E.n 21 rfl rfl rfl ?_
  refine zz_E.n 23 rfl rfl rfl ?_
  refine zz_E.n 24 rfl rfl rfl ?_
  refine zz_E.kt 658 rfl (by first | assumption | decide +kernel) (by decide) rfl ?_
  refine zz_E.n 659 rfl rfl rfl ?_
  refine zz_E.ret rfl rfl rfl ?_
  exact ⟨rfl, by decide +kernel, by decide +kernel⟩
set_option maxRecDepth 100000 in
set_option maxHeartbeats 8000000 in
theorem zv_n9 (xs : Nat → Int32) (h0 : zz_cond .lt (xs 1) 0 = true) : zz_E zp_P zt_tf zt_fd (zt_X 6 xs) 1000 zm_law 33 zv_L [.int (nI 9)] zv_h zv_Q := by
  refine zz_E.n 391 rfl rfl rfl ?_
  refine zz_E.n 392 rfl rfl rfl ?_
  refine zz_E.n 393 rfl rfl rfl ?_
  refine zz_E.n 394 rfl rfl rfl ?_
  refine zz_E.n 395 rfl rfl rfl ?_
  refine zz_E.n 396 rfl rfl rfl ?_
  refine zz_E.n 397 rfl rfl rfl ?_
  refine zz_E.n 398 rfl rfl rfl ?_
  refine zz_E.n 399 rfl rfl rfl ?_
  refine zz_E.n 400 rfl rfl rfl ?_
  refine zz_E.n 401 rfl rfl rfl ?_
  refine zz_E.n 402 rfl rfl rfl ?_
  refine zz_E.cl (M' := zm_11) 405 rfl rfl (by decide) rfl rfl ⟨rfl, Nat.le_of_ble_eq_true rfl⟩ rfl ?_
  refine zz_E.n 1 rfl rfl rfl ?_
  refine zz_E.cl (M' := zm_21) 4 rfl rfl (by decide) rfl rfl ⟨rfl, Nat.le_of_ble_eq_true rfl⟩ rfl ?_
  refine zz_E.n 1 rfl rfl rfl ?_
  refine zz_E.jt 14 rfl (by first | assumption | decide +kernel) (by decide) rfl ?_
  refine zz_E.n 15 rfl rfl rfl ?_
  refine zz_E.ret rfl rfl rfl ?_
  refine zz_E.jf 7 rfl (by first | assumption | decide +kernel) (by decide) rfl ?_
  refine zz_E.n 8 rfl rfl rfl ?_
  refine zz_E.ret rfl rfl rfl ?_
  refine zz_E.n 406 rfl rfl rfl ?_
  refine zz_E.n 407 rfl rfl rfl ?_
  refine zz_E.n 408 rfl rfl rfl ?_
  refine zz_E.n 409 rfl rfl rfl ?_
  refine zz_E.n 410 rfl rfl rfl ?_
  refine zz_E.n 411 rfl rfl rfl ?_
  refine zz_E.n 412 rfl rfl rfl ?_
  refine zz_E.n 413 rfl rfl rfl ?_
  refine zz_E.n 414 rfl rfl rfl ?_
  refine zz_E.n 415 rfl rfl rfl ?_
  refine zz_E.n 416 rfl rfl rfl ?_
  refine zz_E.cl (M' := zm_74) 419 rfl rfl (by decide) rfl rfl ⟨rfl, Nat.le_of_ble_eq_true rfl⟩ rfl ?_
  refine zz_E.n 1 rfl rfl rfl ?_
  refine zz_E.cl (M' := zm_73) 4 rfl rfl (by decide) rfl rfl ⟨rfl, Nat.le_of_ble_eq_true rfl⟩ rfl ?_
  refine zz_E.n 1 rfl rfl rfl ?_
  refine zz_E.jt 14 rfl (by first | assumption | decide +kernel) (by decide) rfl ?_
  refine zz_E.n 15 rfl rfl rfl ?_
  refine zz_E.ret rfl rfl rfl ?_
  refine zz_E.jf 7 rfl (by first | assumption | decide +kernel) (by decide) rfl ?_
  refine zz_E.n 8 rfl rfl rfl ?_
  refine zz_E.ret rfl rfl rfl ?_
  refine zz_E.kt 652 rfl (by first | assumption | decide +kernel) (by decide) rfl ?_
  refine zz_E.n 655 rfl rfl rfl ?_
  refine zz_E.n 18 rfl rfl rfl ?_
  refine zz_E.n 19 rfl rfl rfl ?_
  refine zz_E.n 20 rfl rfl rfl ?_
  refine zz_E.n 21 rfl rfl rfl ?_
  refine zz_E.n 23 rfl rfl rfl ?_
  refine zz_E.n 24 rfl rfl rfl ?_
  refine zz_E.kt 658 rfl (by first | assumption | decide +kernel) (by decide) rfl ?_
  refine zz_E.n 659 rfl rfl rfl ?_
  refine zz_E.ret rfl rfl rfl ?_
  exact ⟨rfl, by decide +kernel, by decide +kernel⟩
set_option maxRecDepth 100000 in
set_option maxHeartbeats 8000000 in
theorem zv_g9 (xs : Nat → Int32) (h0 : zz_cond .lt (xs 1) 0 = false) (h1 : zz_cond .ge (xs 1) 8 = true) : zz_E zp_P zt_tf zt_fd (zt_X 6 xs) 1000 zm_law 33 zv_L [.int (nI 9)] zv_h zv_Q := by
  refine zz_E.n 391 rfl rfl rfl ?_
  refine zz_E.n 392 rfl rfl rfl ?_
  refine zz_E.n 393 rfl rfl rfl ?_
  refine zz_E.n 394 rfl rfl rfl ?_
  refine zz_E.n 395 rfl rfl rfl ?_
  refine zz_E.n 396 rfl rfl rfl ?_
  refine zz_E.n 397 rfl rfl rfl ?_
  refine zz_E.n 398 rfl rfl rfl ?_
  refine zz_E.n 399 rfl rfl rfl ?_
  refine zz_E.n 400 rfl rfl rfl ?_
  refine zz_E.n 401 rfl rfl rfl ?_
  refine zz_E.n 402 rfl rfl rfl ?_
  refine zz_E.cl (M' := zm_11) 405 rfl rfl (by decide) rfl rfl ⟨rfl, Nat.le_of_ble_eq_true rfl⟩ rfl ?_
  refine zz_E.n 1 rfl rfl rfl ?_
  refine zz_E.cl (M' := zm_21) 4 rfl rfl (by decide) rfl rfl ⟨rfl, Nat.le_of_ble_eq_true rfl⟩ rfl ?_
  refine zz_E.n 1 rfl rfl rfl ?_
  refine zz_E.jf 4 rfl (by first | assumption | decide +kernel) (by decide) rfl ?_
  refine zz_E.n 5 rfl rfl rfl ?_
  refine zz_E.n 7 rfl rfl rfl ?_
  refine zz_E.kt 14 rfl (by first | assumption | decide +kernel) (by decide) rfl ?_
  refine zz_E.n 15 rfl rfl rfl ?_
  refine zz_E.ret rfl rfl rfl ?_
  refine zz_E.jf 7 rfl (by first | assumption | decide +kernel) (by decide) rfl ?_
  refine zz_E.n 8 rfl rfl rfl ?_
  refine zz_E.ret rfl rfl rfl ?_
  refine zz_E.n 406 rfl rfl rfl ?_
  refine zz_E.n 407 rfl rfl rfl ?_
  refine zz_E.n 408 rfl rfl rfl ?_
  refine zz_E.n 409 rfl rfl rfl ?_
  refine zz_E.n 410 rfl rfl rfl ?_
  refine zz_E.n 411 rfl rfl rfl ?_
  refine zz_E.n 412 rfl rfl rfl ?_
  refine zz_E.n 413 rfl rfl rfl ?_
  refine zz_E.n 414 rfl rfl rfl ?_
  refine zz_E.n 415 rfl rfl rfl ?_
  refine zz_E.n 416 rfl rfl rfl ?_
  refine zz_E.cl (M' := zm_74) 419 rfl rfl (by decide) rfl rfl ⟨rfl, Nat.le_of_ble_eq_true rfl⟩ rfl ?_
  refine zz_E.n 1 rfl rfl rfl ?_
  refine zz_E.cl (M' := zm_73) 4 rfl rfl (by decide) rfl rfl ⟨rfl, Nat.le_of_ble_eq_true rfl⟩ rfl ?_
  refine zz_E.n 1 rfl rfl rfl ?_
  refine zz_E.jf 4 rfl (by first | assumption | decide +kernel) (by decide) rfl ?_
  refine zz_E.n 5 rfl rfl rfl ?_
  refine zz_E.n 7 rfl rfl rfl ?_
  refine zz_E.kt 14 rfl (by first | assumption | decide +kernel) (by decide) rfl ?_
  refine zz_E.n 15 rfl rfl rfl ?_
  refine zz_E.ret rfl rfl rfl ?_
  refine zz_E.jf 7 rfl (by first | assumption | decide +kernel) (by decide) rfl ?_
  refine zz_E.n 8 rfl rfl rfl ?_
  refine zz_E.ret rfl rfl rfl ?_
  refine zz_E.kt 652 rfl (by first | assumption | decide +kernel) (by decide) rfl ?_
  refine zz_E.n 655 rfl rfl rfl ?_
  refine zz_E.n 18 rfl rfl rfl ?_
  refine zz_E.n 19 rfl rfl rfl ?_
  refine zz_E.n 20 rfl rfl rfl ?_
  refine zz_E.n 21 rfl rfl rfl ?_
  refine zz_E.n 23 rfl rfl rfl ?_
  refine zz_E.n 24 rfl rfl rfl ?_
  refine zz_E.kt 658 rfl (by first | assumption | decide +kernel) (by decide) rfl ?_
  refine zz_E.n 659 rfl rfl rfl ?_
  refine zz_E.ret rfl rfl rfl ?_
  exact ⟨rfl, by decide +kernel, by decide +kernel⟩
set_option maxRecDepth 100000 in
set_option maxHeartbeats 8000000 in
theorem zv_n10 (xs : Nat → Int32) (h0 : zz_cond .lt (xs 1) 0 = true) : zz_E zp_P zt_tf zt_fd (zt_X 6 xs) 1000 zm_law 33 zv_L [.int (nI 10)] zv_h zv_Q := by
  refine zz_E.n 424 rfl rfl rfl ?_
  refine zz_E.n 425 rfl rfl rfl ?_
  refine zz_E.n 426 rfl rfl rfl ?_
  refine zz_E.n 427 rfl rfl rfl ?_
  refine zz_E.n 428 rfl rfl rfl ?_
  refine zz_E.n 429 rfl rfl rfl ?_
  refine zz_E.n 430 rfl rfl rfl ?_
  refine zz_E.n 431 rfl rfl rfl ?_
  refine zz_E.n 432 rfl rfl rfl ?_
  refine zz_E.n 433 rfl rfl rfl ?_
  refine zz_E.n 434 rfl rfl rfl ?_
  refine zz_E.n 435 rfl rfl rfl ?_
  refine zz_E.cl (M' := zm_12) 438 rfl rfl (by decide) rfl rfl ⟨rfl, Nat.le_of_ble_eq_true rfl⟩ rfl ?_
  refine zz_E.n 1 rfl rfl rfl ?_
  refine zz_E.cl (M' := zm_21) 4 rfl rfl (by decide) rfl rfl ⟨rfl, Nat.le_of_ble_eq_true rfl⟩ rfl ?_
  refine zz_E.n 1 rfl rfl rfl ?_
  refine zz_E.jt 14 rfl (by first | assumption | decide +kernel) (by decide) rfl ?_
  refine zz_E.n 15 rfl rfl rfl ?_
  refine zz_E.ret rfl rfl rfl ?_
  refine zz_E.jt 23 rfl (by first | assumption | decide +kernel) (by decide) rfl ?_
  refine zz_E.n 24 rfl rfl rfl ?_
  refine zz_E.ret rfl rfl rfl ?_
  refine zz_E.n 439 rfl rfl rfl ?_
  refine zz_E.n 440 rfl rfl rfl ?_
  refine zz_E.n 441 rfl rfl rfl ?_
  refine zz_E.n 442 rfl rfl rfl ?_
  refine zz_E.n 443 rfl rfl rfl ?_
  refine zz_E.n 444 rfl rfl rfl ?_
  refine zz_E.n 445 rfl rfl rfl ?_
  refine zz_E.n 446 rfl rfl rfl ?_
  refine zz_E.n 447 rfl rfl rfl ?_
  refine zz_E.n 448 rfl rfl rfl ?_
  refine zz_E.n 449 rfl rfl rfl ?_
  refine zz_E.cl (M' := zm_76) 452 rfl rfl (by decide) rfl rfl ⟨rfl, Nat.le_of_ble_eq_true rfl⟩ rfl ?_
  refine zz_E.n 1 rfl rfl rfl ?_
  refine zz_E.cl (M' := zm_73) 4 rfl rfl (by decide) rfl rfl ⟨rfl, Nat.le_of_ble_eq_true rfl⟩ rfl ?_
  refine zz_E.n 1 rfl rfl rfl ?_
  refine zz_E.jt 14 rfl (by first | assumption | decide +kernel) (by decide) rfl ?_
  refine zz_E.n 15 rfl rfl rfl ?_
  refine zz_E.ret rfl rfl rfl ?_
  refine zz_E.jf 7 rfl (by first | assumption | decide +kernel) (by decide) rfl ?_
  refine zz_E.n 8 rfl rfl rfl ?_
  refine zz_E.ret rfl rfl rfl ?_
  refine zz_E.kt 652 rfl (by first | assumption | decide +kernel) (by decide) rfl ?_
  refine zz_E.n 655 rfl rfl rfl ?_
  refine zz_E.n 18 rfl rfl rfl ?_
  refine zz_E.n 19 rfl rfl rfl ?_
  refine zz_E.n 20 rfl rfl rfl ?_
  refine zz_E.n 21 rfl rfl rfl ?_
  refine zz_E.n 23 rfl rfl rfl ?_
  refine zz_E.n 24 rfl rfl rfl ?_
  refine zz_E.kt 658 rfl (by first | assumption | decide +kernel) (by decide) rfl ?_
  refine zz_E.n 659 rfl rfl rfl ?_
  refine zz_E.ret rfl rfl rfl ?_
  exact ⟨rfl, by decide +kernel, by decide +kernel⟩
set_option maxRecDepth 100000 in
set_option maxHeartbeats 8000000 in
theorem zv_g10 (xs : Nat → Int32) (h0 : zz_cond .lt (xs 1) 0 = false) (h1 : zz_cond .ge (xs 1) 8 = true) : zz_E zp_P zt_tf zt_fd (zt_X 6 xs) 1000 zm_law 33 zv_L [.int (nI 10)] zv_h zv_Q := by
  refine zz_E.n 424 rfl rfl rfl ?_
  refine zz_E.n 425 rfl rfl rfl ?_
  refine zz_E.n 426 rfl rfl rfl ?_
  refine zz_E.n 427 rfl rfl rfl ?_
  refine zz_E.n 428 rfl rfl rfl ?_
  refine zz_E.n 429 rfl rfl rfl ?_
  refine zz_E.n 430 rfl rfl rfl ?_
  refine zz_E.n 431 rfl rfl rfl ?_
  refine zz_E.n 432 rfl rfl rfl ?_
  refine zz_E.n 433 rfl rfl rfl ?_
  refine zz_E.n 434 rfl rfl rfl ?_
  refine zz_E.n 435 rfl rfl rfl ?_
  refine zz_E.cl (M' := zm_12) 438 rfl rfl (by decide) rfl rfl ⟨rfl, Nat.le_of_ble_eq_true rfl⟩ rfl ?_
  refine zz_E.n 1 rfl rfl rfl ?_
  refine zz_E.cl (M' := zm_21) 4 rfl rfl (by decide) rfl rfl ⟨rfl, Nat.le_of_ble_eq_true rfl⟩ rfl ?_
  refine zz_E.n 1 rfl rfl rfl ?_
  refine zz_E.jf 4 rfl (by first | assumption | decide +kernel) (by decide) rfl ?_
  refine zz_E.n 5 rfl rfl rfl ?_
  refine zz_E.n 7 rfl rfl rfl ?_
  refine zz_E.kt 14 rfl (by first | assumption | decide +kernel) (by decide) rfl ?_
  refine zz_E.n 15 rfl rfl rfl ?_
  refine zz_E.ret rfl rfl rfl ?_
  refine zz_E.jt 23 rfl (by first | assumption | decide +kernel) (by decide) rfl ?_
  refine zz_E.n 24 rfl rfl rfl ?_
  refine zz_E.ret rfl rfl rfl ?_
  refine zz_E.n 439 rfl rfl rfl ?_
  refine zz_E.n 440 rfl rfl rfl ?_
  refine zz_E.n 441 rfl rfl rfl ?_
  refine zz_E.n 442 rfl rfl rfl ?_
  refine zz_E.n 443 rfl rfl rfl ?_
  refine zz_E.n 444 rfl rfl rfl ?_
  refine zz_E.n 445 rfl rfl rfl ?_
  refine zz_E.n 446 rfl rfl rfl ?_
  refine zz_E.n 447 rfl rfl rfl ?_
  refine zz_E.n 448 rfl rfl rfl ?_
  refine zz_E.n 449 rfl rfl rfl ?_
  refine zz_E.cl (M' := zm_76) 452 rfl rfl (by decide) rfl rfl ⟨rfl, Nat.le_of_ble_eq_true rfl⟩ rfl ?_
  refine zz_E.n 1 rfl rfl rfl ?_
  refine zz_E.cl (M' := zm_73) 4 rfl rfl (by decide) rfl rfl ⟨rfl, Nat.le_of_ble_eq_true rfl⟩ rfl ?_
  refine zz_E.n 1 rfl rfl rfl ?_
  refine zz_E.jf 4 rfl (by first | assumption | decide +kernel) (by decide) rfl ?_
  refine zz_E.n 5 rfl rfl rfl ?_
  refine zz_E.n 7 rfl rfl rfl ?_
  refine zz_E.kt 14 rfl (by first | assumption | decide +kernel) (by decide) rfl ?_
  refine zz_E.n 15 rfl rfl rfl ?_
  refine zz_E.ret rfl rfl rfl ?_
  refine zz_E.jf 7 rfl (by first | assumption | decide +kernel) (by decide) rfl ?_
  refine zz_E.n 8 rfl rfl rfl ?_
  refine zz_E.ret rfl rfl rfl ?_
  refine zz_E.kt 652 rfl (by first | assumption | decide +kernel) (by decide) rfl ?_
  refine zz_E.n 655 rfl rfl rfl ?_
  refine zz_E.n 18 rfl rfl rfl ?_
  refine zz_E.n 19 rfl rfl rfl ?_
  refine zz_E.n 20 rfl rfl rfl ?_
  refine zz_E.n 21 rfl rfl rfl ?_
  refine zz_E.n 23 rfl rfl rfl ?_
  refine zz_E.n 24 rfl rfl rfl ?_
  refine zz_E.kt 658 rfl (by first | assumption | decide +kernel) (by decide) rfl ?_
  refine zz_E.n 659 rfl rfl rfl ?_
  refine zz_E.ret rfl rfl rfl ?_
  exact ⟨rfl, by decide +kernel, by decide +kernel⟩
set_option maxRecDepth 100000 in
set_option maxHeartbeats 8000000 in
theorem zv_n11 (xs : Nat → Int32) (h0 : zz_cond .lt (xs 1) 0 = true) : zz_E zp_P zt_tf zt_fd (zt_X 6 xs) 1000 zm_law 33 zv_L [.int (nI 11)] zv_h zv_Q := by
  refine zz_E.n 457 rfl rfl rfl ?_
  refine zz_E.n 458 rfl rfl rfl ?_
  refine zz_E.n 459 rfl rfl rfl ?_
  refine zz_E.n 460 rfl rfl rfl ?_
  refine zz_E.n 461 rfl rfl rfl ?_
  refine zz_E.n 462 rfl rfl rfl ?_
  refine zz_E.n 463 rfl rfl rfl ?_
  refine zz_E.cl (M' := zm_13) 466 rfl rfl (by decide) rfl rfl ⟨rfl, Nat.le_of_ble_eq_true rfl⟩ rfl ?_
  refine zz_E.n 1 rfl rfl rfl ?_
  refine zz_E.cl (M' := zm_21) 4 rfl rfl (by decide) rfl rfl ⟨rfl, Nat.le_of_ble_eq_true rfl⟩ rfl ?_
  refine zz_E.n 1 rfl rfl rfl ?_
  refine zz_E.jt 14 rfl (by first | assumption | decide +kernel) (by decide) rfl ?_
  refine zz_E.n 15 rfl rfl rfl ?_
  refine zz_E.ret rfl rfl rfl ?_
  refine zz_E.jt 19 rfl (by first | assumption | decide +kernel) (by decide) rfl ?_
  refine zz_E.n 20 rfl rfl rfl ?_
  refine zz_E.ret rfl rfl rfl ?_
  refine zz_E.n 467 rfl rfl rfl ?_
  refine zz_E.n 468 rfl rfl rfl ?_
  refine zz_E.n 469 rfl rfl rfl ?_
  refine zz_E.n 470 rfl rfl rfl ?_
  refine zz_E.n 471 rfl rfl rfl ?_
  refine zz_E.n 472 rfl rfl rfl ?_
  refine zz_E.cl (M' := zm_78) 475 rfl rfl (by decide) rfl rfl ⟨rfl, Nat.le_of_ble_eq_true rfl⟩ rfl ?_
  refine zz_E.n 1 rfl rfl rfl ?_
  refine zz_E.cl (M' := zm_73) 4 rfl rfl (by decide) rfl rfl ⟨rfl, Nat.le_of_ble_eq_true rfl⟩ rfl ?_
  refine zz_E.n 1 rfl rfl rfl ?_
  refine zz_E.jt 14 rfl (by first | assumption | decide +kernel) (by decide) rfl ?_
  refine zz_E.n 15 rfl rfl rfl ?_
  refine zz_E.ret rfl rfl rfl ?_
  refine zz_E.jt 21 rfl (by first | assumption | decide +kernel) (by decide) rfl ?_
  refine zz_E.n 22 rfl rfl rfl ?_
  refine zz_E.ret rfl rfl rfl ?_
  refine zz_E.kt 652 rfl (by first | assumption | decide +kernel) (by decide) rfl ?_
  refine zz_E.n 655 rfl rfl rfl ?_
  refine zz_E.n 18 rfl rfl rfl ?_
  refine zz_E.n 19 rfl rfl rfl ?_
  refine zz_E.n 20 rfl rfl rfl ?_
  refine zz_E.n 21 rfl rfl rfl ?_
  refine zz_E.n 23 rfl rfl rfl ?_
  refine zz_E.n 24 rfl rfl rfl ?_
  refine zz_E.kt 658 rfl (by first | assumption | decide +kernel) (by decide) rfl ?_
  refine zz_E.n 659 rfl rfl rfl ?_
  refine zz_E.ret rfl rfl rfl ?_
  exact ⟨rfl, by decide +kernel, by decide +kernel⟩
set_option maxRecDepth 100000 in
set_option maxHeartbeats 8000000 in
theorem zv_g11 (xs : Nat → Int32) (h0 : zz_cond .lt (xs 1) 0 = false) (h1 : zz_cond .ge (xs 1) 8 = true) : zz_E zp_P zt_tf zt_fd (zt_X 6 xs) 1000 zm_law 33 zv_L [.int (nI 11)] zv_h zv_Q := by
  refine zz_E.n 457 rfl rfl rfl ?_
  refine zz_E.n 458 rfl rfl rfl ?_
  refine zz_E.n 459 rfl rfl rfl ?_
  refine zz_E.n 460 rfl rfl rfl ?_
  refine zz_E.n 461 rfl rfl rfl ?_
  refine zz_E.n 462 rfl rfl rfl ?_
  refine zz_E.n 463 rfl rfl rfl ?_
  refine zz_E.cl (M' := zm_13) 466 rfl rfl (by decide) rfl rfl ⟨rfl, Nat.le_of_ble_eq_true rfl⟩ rfl ?_
  refine zz_E.n 1 rfl rfl rfl ?_
  refine zz_E.cl (M' := zm_21) 4 rfl rfl (by decide) rfl rfl ⟨rfl, Nat.le_of_ble_eq_true rfl⟩ rfl ?_
  refine zz_E.n 1 rfl rfl rfl ?_
  refine zz_E.jf 4 rfl (by first | assumption | decide +kernel) (by decide) rfl ?_
  refine zz_E.n 5 rfl rfl rfl ?_
  refine zz_E.n 7 rfl rfl rfl ?_
  refine zz_E.kt 14 rfl (by first | assumption | decide +kernel) (by decide) rfl ?_
  refine zz_E.n 15 rfl rfl rfl ?_
  refine zz_E.ret rfl rfl rfl ?_
  refine zz_E.jt 19 rfl (by first | assumption | decide +kernel) (by decide) rfl ?_
  refine zz_E.n 20 rfl rfl rfl ?_
  refine zz_E.ret rfl rfl rfl ?_
  refine zz_E.n 467 rfl rfl rfl ?_
  refine zz_E.n 468 rfl rfl rfl ?_
  refine zz_E.n 469 rfl rfl rfl ?_
  refine zz_E.n 470 rfl rfl rfl ?_
  refine zz_E.n 471 rfl rfl rfl ?_
  refine zz_E.n 472 rfl rfl rfl ?_
  refine zz_E.cl (M' := zm_78) 475 rfl rfl (by decide) rfl rfl ⟨rfl, Nat.le_of_ble_eq_true rfl⟩ rfl ?_
  refine zz_E.n 1 rfl rfl rfl ?_
  refine zz_E.cl (M' := zm_73) 4 rfl rfl (by decide) rfl rfl ⟨rfl, Nat.le_of_ble_eq_true rfl⟩ rfl ?_
  refine zz_E.n 1 rfl rfl rfl ?_
  refine zz_E.jf 4 rfl (by first | assumption | decide +kernel) (by decide) rfl ?_
  refine zz_E.n 5 rfl rfl rfl ?_
  refine zz_E.n 7 rfl rfl rfl ?_
  refine zz_E.kt 14 rfl (by first | assumption | decide +kernel) (by decide) rfl ?_
  refine zz_E.n 15 rfl rfl rfl ?_
  refine zz_E.ret rfl rfl rfl ?_
  refine zz_E.jt 21 rfl (by first | assumption | decide +kernel) (by decide) rfl ?_
  refine zz_E.n 22 rfl rfl rfl ?_
  refine zz_E.ret rfl rfl rfl ?_
  refine zz_E.kt 652 rfl (by first | assumption | decide +kernel) (by decide) rfl ?_
  refine zz_E.n 655 rfl rfl rfl ?_
  refine zz_E.n 18 rfl rfl rfl ?_
  refine zz_E.n 19 rfl rfl rfl ?_
  refine zz_E.n 20 rfl rfl rfl ?_
  refine zz_E.n 21 rfl rfl rfl ?_
  refine zz_E.n 23 rfl rfl rfl ?_
  refine zz_E.n 24 rfl rfl rfl ?_
  refine zz_E.kt 658 rfl (by first | assumption | decide +kernel) (by decide) rfl ?_
  refine zz_E.n 659 rfl rfl rfl ?_
  refine zz_E.ret rfl rfl rfl ?_
  exact ⟨rfl, by decide +kernel, by decide +kernel⟩
set_option maxRecDepth 100000 in
set_option maxHeartbeats 8000000 in
theorem zv_n12 (xs : Nat → Int32) (h0 : zz_cond .lt (xs 1) 0 = true) : zz_E zp_P zt_tf zt_fd (zt_X 6 xs) 1000 zm_law 33 zv_L [.int (nI 12)] zv_h zv_Q := by
  refine zz_E.n 480 rfl rfl rfl ?_
  refine zz_E.n 481 rfl rfl rfl ?_
  refine zz_E.n 482 rfl rfl rfl ?_
  refine zz_E.n 483 rfl rfl rfl ?_
  refine zz_E.n 484 rfl rfl rfl ?_
  refine zz_E.n 485 rfl rfl rfl ?_
  refine zz_E.n 486 rfl rfl rfl ?_
  refine zz_E.cl (M' := zm_14) 489 rfl rfl (by decide) rfl rfl ⟨rfl, Nat.le_of_ble_eq_true rfl⟩ rfl ?_
  refine zz_E.n 1 rfl rfl rfl ?_
  refine zz_E.cl (M' := zm_21) 4 rfl rfl (by decide) rfl rfl ⟨rfl, Nat.le_of_ble_eq_true rfl⟩ rfl ?_
  refine zz_E.n 1 rfl rfl rfl ?_
  refine zz_E.jt 14 rfl (by first | assumption | decide +kernel) (by decide) rfl ?_
  refine zz_E.n 15 rfl rfl rfl ?_
  refine zz_E.ret rfl rfl rfl ?_
  refine zz_E.jt 18 rfl (by first | assumption | decide +kernel) (by decide) rfl ?_
  refine zz_E.n 19 rfl rfl rfl ?_
  refine zz_E.ret rfl rfl rfl ?_
  refine zz_E.n 490 rfl rfl rfl ?_
  refine zz_E.n 491 rfl rfl rfl ?_
  refine zz_E.n 492 rfl rfl rfl ?_
  refine zz_E.n 493 rfl rfl rfl ?_
  refine zz_E.n 494 rfl rfl rfl ?_
  refine zz_E.n 495 rfl rfl rfl ?_
  refine zz_E.cl (M' := zm_79) 498 rfl rfl (by decide) rfl rfl ⟨rfl, Nat.le_of_ble_eq_true rfl⟩ rfl ?_
  refine zz_E.n 1 rfl rfl rfl ?_
  refine zz_E.cl (M' := zm_73) 4 rfl rfl (by decide) rfl rfl ⟨rfl, Nat.le_of_ble_eq_true rfl⟩ rfl ?_
  refine zz_E.n 1 rfl rfl rfl ?_
  refine zz_E.jt 14 rfl (by first | assumption | decide +kernel) (by decide) rfl ?_
  refine zz_E.n 15 rfl rfl rfl ?_
  refine zz_E.ret rfl rfl rfl ?_
  refine zz_E.jt 20 rfl (by first | assumption | decide +kernel) (by decide) rfl ?_
  refine zz_E.n 21 rfl rfl rfl ?_
  refine zz_E.ret rfl rfl rfl ?_
  refine zz_E.kt 652 rfl (by first | assumption | decide +kernel) (by decide) rfl ?_
  refine zz_E.n 655 rfl rfl rfl ?_
  refine zz_E.n 18 rfl rfl rfl ?_
  refine zz_E.n 19 rfl rfl rfl ?_
  refine zz_E.n 20 rfl rfl rfl ?_
  refine zz_E.n 21 rfl rfl rfl ?_
  refine zz_E.n 23 rfl rfl rfl ?_
  refine zz_E.n 24 rfl rfl rfl ?_
  refine zz_E.kt 658 rfl (by first | assumption | decide +kernel) (by decide) rfl ?_
  refine zz_E.n 659 rfl rfl rfl ?_
  refine zz_E.ret rfl rfl rfl ?_
  exact ⟨rfl, by decide +kernel, by decide +kernel⟩
set_option maxRecDepth 100000 in
set_option maxHeartbeats 8000000 in
theorem zv_g12 (xs : Nat → Int32) (h0 : zz_cond .lt (xs 1) 0 = false) (h1 : zz_cond .ge (xs 1) 8 = true) : zz_E zp_P zt_tf zt_fd (zt_X 6 xs) 1000 zm_law 33 zv_L [.int (nI 12)] zv_h zv_Q := by
  refine zz_E.n 480 rfl rfl rfl ?_
  refine zz_E.n 481 rfl rfl rfl ?_
  refine zz_E.n 482 rfl rfl rfl ?_
  refine zz_E.n 483 rfl rfl rfl ?_
  refine zz_E.n 484 rfl rfl rfl ?_
  refine zz_E.n 485 rfl rfl rfl ?_
  refine zz_E.n 486 rfl rfl rfl ?_
  refine zz_E.cl (M' := zm_14) 489 rfl rfl (by decide) rfl rfl ⟨rfl, Nat.le_of_ble_eq_true rfl⟩ rfl ?_
  refine zz_E.n 1 rfl rfl rfl ?_
  refine zz_E.cl (M' := zm_21) 4 rfl rfl (by decide) rfl rfl ⟨rfl, Nat.le_of_ble_eq_true rfl⟩ rfl ?_
  refine zz_E.n 1 rfl rfl rfl ?_
  refine zz_E.jf 4 rfl (by first | assumption | decide +kernel) (by decide) rfl ?_
  refine zz_E.n 5 rfl rfl rfl ?_
  refine zz_E.n 7 rfl rfl rfl ?_
  refine zz_E.kt 14 rfl (by first | assumption | decide +kernel) (by decide) rfl ?_
  refine zz_E.n 15 rfl rfl rfl ?_
  refine zz_E.ret rfl rfl rfl ?_
  refine zz_E.jt 18 rfl (by first | assumption | decide +kernel) (by decide) rfl ?_
  refine zz_E.n 19 rfl rfl rfl ?_
  refine zz_E.ret rfl rfl rfl ?_
  refine zz_E.n 490 rfl rfl rfl ?_
  refine zz_E.n 491 rfl rfl rfl ?_
  refine zz_E.n 492 rfl rfl rfl ?_
  refine zz_E.n 493 rfl rfl rfl ?_
  refine zz_E.n 494 rfl rfl rfl ?_
  refine zz_E.n 495 rfl rfl rfl ?_
  refine zz_E.cl (M' := zm_79) 498 rfl rfl (by decide) rfl rfl ⟨rfl, Nat.le_of_ble_eq_true rfl⟩ rfl ?_
  refine zz_E.n 1 rfl rfl rfl ?_
  refine zz_E.cl (M' := zm_73) 4 rfl rfl (by decide) rfl rfl ⟨rfl, Nat.le_of_ble_eq_true rfl⟩ rfl ?_
  refine zz_E.n 1 rfl rfl rfl ?_
  refine zz_E.jf 4 rfl (by first | assumption | decide +kernel) (by decide) rfl ?_
  refine zz_E.n 5 rfl rfl rfl ?_
  refine zz_E.n 7 rfl rfl rfl ?_
  refine zz_E.kt 14 rfl (by first | assumption | decide +kernel) (by decide) rfl ?_
  refine zz_E.n 15 rfl rfl rfl ?_
  refine zz_E.ret rfl rfl rfl ?_
  refine zz_E.jt 20 rfl (by first | assumption | decide +kernel) (by decide) rfl ?_
  refine zz_E.n 21 rfl rfl rfl ?_
  refine zz_E.ret rfl rfl rfl ?_
  refine zz_E.kt 652 rfl (by first | assumption | decide +kernel) (by decide) rfl ?_
  refine zz_E.n 655 rfl rfl rfl ?_
  refine zz_E.n 18 rfl rfl rfl ?_
  refine zz_E.n 19 rfl rfl rfl ?_
  refine zz_E.n 20 rfl rfl rfl ?_
  refine zz_E.n 21 rfl rfl rfl ?_
  refine zz_E.n 23 rfl rfl rfl ?_
  refine zz_E.n 24 rfl rfl rfl ?_
  refine zz_E.kt 658 rfl (by first | assumption | decide +kernel) (by decide) rfl ?_
  refine zz_E.n 659 rfl rfl rfl ?_
  refine zz_E.ret rfl rfl rfl ?_
  exact ⟨rfl, by decide +kernel, by decide +kernel⟩
set_option maxRecDepth 100000 in
set_option maxHeartbeats 8000000 in
theorem zv_n13 (xs : Nat → Int32) (h0 : zz_cond .lt (xs 1) 0 = true) : zz_E zp_P zt_tf zt_fd (zt_X 6 xs) 1000 zm_law 33 zv_L [.int (nI 13)] zv_h zv_Q := by
  refine zz_E.n 503 rfl rfl rfl ?_
  refine zz_E.n 504 rfl rfl rfl ?_
  refine zz_E.n 505 rfl rfl rfl ?_
  refine zz_E.n 506 rfl rfl rfl ?_
  refine zz_E.n 507 rfl rfl rfl ?_
  refine zz_E.n 508 rfl rfl rfl ?_
  refine zz_E.n 509 rfl rfl rfl ?_
  refine zz_E.n 510 rfl rfl rfl ?_
  refine zz_E.n 511 rfl rfl rfl ?_
  refine zz_E.n 512 rfl rfl rfl ?_
  refine zz_E.n 513 rfl rfl rfl ?_
  refine zz_E.n 514 rfl rfl rfl ?_
  refine zz_E.cl (M' := zm_15) 517 rfl rfl (by decide) rfl rfl ⟨rfl, Nat.le_of_ble_eq_true rfl⟩ rfl ?_
  refine zz_E.n 1 rfl rfl rfl ?_
  refine zz_E.cl (M' := zm_21) 4 rfl rfl (by decide) rfl rfl ⟨rfl, Nat.le_of_ble_eq_true rfl⟩ rfl ?_
  refine zz_E.n 1 rfl rfl rfl ?_
  refine zz_E.jt 14 rfl (by first | assumption | decide +kernel) (by decide) rfl ?_
  refine zz_E.n 15 rfl rfl rfl ?_
  refine zz_E.ret rfl rfl rfl ?_
  refine zz_E.jt 19 rfl (by first | assumption | decide +kernel) (by decide) rfl ?_
  refine zz_E.n 20 rfl rfl rfl ?_
  refine zz_E.ret rfl rfl rfl ?_
  refine zz_E.n 518 rfl rfl rfl ?_
  refine zz_E.n 519 rfl rfl rfl ?_
  refine zz_E.n 520 rfl rfl rfl ?_
  refine zz_E.n 521 rfl rfl rfl ?_
  refine zz_E.n 522 rfl rfl rfl ?_
  refine zz_E.n 523 rfl rfl rfl ?_
  refine zz_E.n 524 rfl rfl rfl ?_
  refine zz_E.n 525 rfl rfl rfl ?_
  refine zz_E.n 526 rfl rfl rfl ?_
  refine zz_E.n 527 rfl rfl rfl ?_
  refine zz_E.n 528 rfl rfl rfl ?_
  refine zz_E.cl (M' := zm_80) 531 rfl rfl (by decide) rfl rfl ⟨rfl, Nat.le_of_ble_eq_true rfl⟩ rfl ?_
  refine zz_E.n 1 rfl rfl rfl ?_
  refine zz_E.n 2 rfl rfl rfl ?_
  refine zz_E.cl (M' := zm_79) 5 rfl rfl (by decide) rfl rfl ⟨rfl, Nat.le_of_ble_eq_true rfl⟩ rfl ?_
  refine zz_E.n 1 rfl rfl rfl ?_
  refine zz_E.cl (M' := zm_73) 4 rfl rfl (by decide) rfl rfl ⟨rfl, Nat.le_of_ble_eq_true rfl⟩ rfl ?_
  refine zz_E.n 1 rfl rfl rfl ?_
  refine zz_E.jt 14 rfl (by first | assumption | decide +kernel) (by decide) rfl ?_
  refine zz_E.n 15 rfl rfl rfl ?_
  refine zz_E.ret rfl rfl rfl ?_
  refine zz_E.jt 20 rfl (by first | assumption | decide +kernel) (by decide) rfl ?_
  refine zz_E.n 21 rfl rfl rfl ?_
  refine zz_E.ret rfl rfl rfl ?_
  refine zz_E.n 6 rfl rfl rfl ?_
  refine zz_E.n 7 rfl rfl rfl ?_
  refine zz_E.jf 10 rfl (by first | assumption | decide +kernel) (by decide) rfl ?_
  refine zz_E.n 11 rfl rfl rfl ?_
  refine zz_E.ret rfl rfl rfl ?_
  refine zz_E.kt 652 rfl (by first | assumption | decide +kernel) (by decide) rfl ?_
  refine zz_E.n 655 rfl rfl rfl ?_
  refine zz_E.n 18 rfl rfl rfl ?_
  refine zz_E.n 19 rfl rfl rfl ?_
  refine zz_E.n 20 rfl rfl rfl ?_
  refine zz_E.n 21 rfl rfl rfl ?_
  refine zz_E.n 23 rfl rfl rfl ?_
  refine zz_E.n 24 rfl rfl rfl ?_
  refine zz_E.kt 658 rfl (by first | assumption | decide +kernel) (by decide) rfl ?_
  refine zz_E.n 659 rfl rfl rfl ?_
  refine zz_E.ret rfl rfl rfl ?_
  exact ⟨rfl, by decide +kernel, by decide +kernel⟩
set_option maxRecDepth 100000 in
set_option maxHeartbeats 8000000 in
theorem zv_g13 (xs : Nat → Int32) (h0 : zz_cond .lt (xs 1) 0 = false) (h1 : zz_cond .ge (xs 1) 8 = true) : zz_E zp_P zt_tf zt_fd (zt_X 6 xs) 1000 zm_law 33 zv_L [.int (nI 13)] zv_h zv_Q := by
  refine zz_E.n 503 rfl rfl rfl ?_
  refine zz_E.n 504 rfl rfl rfl ?_
  refine zz_E.n 505 rfl rfl rfl ?_
  refine zz_E.n 506 rfl rfl rfl ?_
  refine zz_E.n 507 rfl rfl rfl ?_
  refine zz_E.n 508 rfl rfl rfl ?_
  refine zz_E.n 509 rfl rfl rfl ?_
  refine zz_E.n 510 rfl rfl rfl ?_
  refine zz_E.n 511 rfl rfl rfl ?_
  refine zz_E.n 512 rfl rfl rfl ?_
  refine zz_E.n 513 rfl rfl rfl ?_
  refine zz_E.n 514 rfl rfl rfl ?_
  refine zz_E.cl (M' := zm_15) 517 rfl rfl (by decide) rfl rfl ⟨rfl, Nat.le_of_ble_eq_true rfl⟩ rfl ?_
  refine zz_E.n 1 rfl rfl rfl ?_
  refine zz_E.cl (M' := zm_21) 4 rfl rfl (by decide) rfl rfl ⟨rfl, Nat.le_of_ble_eq_true rfl⟩ rfl ?_
  refine zz_E.n 1 rfl rfl rfl ?_
  refine zz_E.jf 4 rfl (by first | assumption | decide +kernel) (by decide) rfl ?_
  refine zz_E.n 5 rfl rfl rfl ?_
  refine zz_E.n 7 rfl rfl rfl ?_
  refine zz_E.kt 14 rfl (by first | assumption | decide +kernel) (by decide) rfl ?_
  refine zz_E.n 15 rfl rfl rfl ?_
  refine zz_E.ret rfl rfl rfl ?_
  refine zz_E.jt 19 rfl (by first | assumption | decide +kernel) (by decide) rfl ?_
  refine zz_E.n 20 rfl rfl rfl ?_
  refine zz_E.ret rfl rfl rfl ?_
  refine zz_E.n 518 rfl rfl rfl ?_
  refine zz_E.n 519 rfl rfl rfl ?_
  refine zz_E.n 520 rfl rfl rfl ?_
  refine zz_E.n 521 rfl rfl rfl ?_
  refine zz_E.n 522 rfl rfl rfl ?_
  refine zz_E.n 523 rfl rfl rfl ?_
  refine zz_E.n 524 rfl rfl rfl ?_
  refine zz_E.n 525 rfl rfl rfl ?_
  refine zz_E.n 526 rfl rfl rfl ?_
  refine zz_E.n 527 rfl rfl rfl ?_
  refine zz_E.n 528 rfl rfl rfl ?_
  refine zz_E.cl (M' := zm_80) 531 rfl rfl (by decide) rfl rfl ⟨rfl, Nat.le_of_ble_eq_true rfl⟩ rfl ?_
  refine zz_E.n 1 rfl rfl rfl ?_
  refine zz_E.n 2 rfl rfl rfl ?_
  refine zz_E.cl (M' := zm_79) 5 rfl rfl (by decide) rfl rfl ⟨rfl, Nat.le_of_ble_eq_true rfl⟩ rfl ?_
  refine zz_E.n 1 rfl rfl rfl ?_
  refine zz_E.cl (M' := zm_73) 4 rfl rfl (by decide) rfl rfl ⟨rfl, Nat.le_of_ble_eq_true rfl⟩ rfl ?_
  refine zz_E.n 1 rfl rfl rfl ?_
  refine zz_E.jf 4 rfl (by first | assumption | decide +kernel) (by decide) rfl ?_
  refine zz_E.n 5 rfl rfl rfl ?_
  refine zz_E.n 7 rfl rfl rfl ?_
  refine zz_E.kt 14 rfl (by first | assumption | decide +kernel) (by decide) rfl ?_
  refine zz_E.n 15 rfl rfl rfl ?_
  refine zz_E.ret rfl rfl rfl ?_
  refine zz_E.jt 20 rfl (by first | assumption | decide +kernel) (by decide) rfl ?_
  refine zz_E.n 21 rfl rfl rfl ?_
  refine zz_E.ret rfl rfl rfl ?_
  refine zz_E.n 6 rfl rfl rfl ?_
  refine zz_E.n 7 rfl rfl rfl ?_
  refine zz_E.jf 10 rfl (by first | assumption | decide +kernel) (by decide) rfl ?_
  refine zz_E.n 11 rfl rfl rfl ?_
  refine zz_E.ret rfl rfl rfl ?_
  refine zz_E.kt 652 rfl (by first | assumption | decide +kernel) (by decide) rfl ?_
  refine zz_E.n 655 rfl rfl rfl ?_
  refine zz_E.n 18 rfl rfl rfl ?_
  refine zz_E.n 19 rfl rfl rfl ?_
  refine zz_E.n 20 rfl rfl rfl ?_
  refine zz_E.n 21 rfl rfl rfl ?_
  refine zz_E.n 23 rfl rfl rfl ?_
  refine zz_E.n 24 rfl rfl rfl ?_
  refine zz_E.kt 658 rfl (by first | assumption | decide +kernel) (by decide) rfl ?_
  refine zz_E.n 659 rfl rfl rfl ?_
  refine zz_E.ret rfl rfl rfl ?_
  exact ⟨rfl, by decide +kernel, by decide +kernel⟩
set_option maxRecDepth 100000 in
set_option maxHeartbeats 8000000 in
theorem zv_n14 (xs : Nat → Int32) (h0 : zz_cond .lt (xs 1) 0 = true) : zz_E zp_P zt_tf zt_fd (zt_X 6 xs) 1000 zm_law 33 zv_L [.int (nI 14)] zv_h zv_Q := by
  refine zz_E.n 536 rfl rfl rfl ?_
  refine zz_E.n 537 rfl rfl rfl ?_
  refine zz_E.n 538 rfl rfl rfl ?_
  refine zz_E.n 539 rfl rfl rfl ?_
  refine zz_E.n 540 rfl rfl rfl ?_
  refine zz_E.n 541 rfl rfl rfl ?_
  refine zz_E.n 542 rfl rfl rfl ?_
  refine zz_E.n 543 rfl rfl rfl ?_
  refine zz_E.n 544 rfl rfl rfl ?_
  refine zz_E.n 545 rfl rfl rfl ?_
  refine zz_E.n 546 rfl rfl rfl ?_
  refine zz_E.n 547 rfl rfl rfl ?_
  refine zz_E.n 548 rfl rfl rfl ?_
  refine zz_E.n 549 rfl rfl rfl ?_
  refine zz_E.n 550 rfl rfl rfl ?_
  refine zz_E.n 551 rfl rfl rfl ?_
  refine zz_E.n 552 rfl rfl rfl ?_
  refine zz_E.cl (M' := zm_16) 555 rfl rfl (by decide) rfl rfl ⟨rfl, Nat.le_of_ble_eq_true rfl⟩ rfl ?_
  refine zz_E.n 1 rfl rfl rfl ?_
  refine zz_E.cl (M' := zm_21) 4 rfl rfl (by decide) rfl rfl ⟨rfl, Nat.le_of_ble_eq_true rfl⟩ rfl ?_
  refine zz_E.n 1 rfl rfl rfl ?_
  refine zz_E.jt 14 rfl (by first | assumption | decide +kernel) (by decide) rfl ?_
  refine zz_E.n 15 rfl rfl rfl ?_
  refine zz_E.ret rfl rfl rfl ?_
  refine zz_E.jt 19 rfl (by first | assumption | decide +kernel) (by decide) rfl ?_
  refine zz_E.n 20 rfl rfl rfl ?_
  refine zz_E.ret rfl rfl rfl ?_
  refine zz_E.n 556 rfl rfl rfl ?_
  refine zz_E.n 557 rfl rfl rfl ?_
  refine zz_E.n 558 rfl rfl rfl ?_
  refine zz_E.n 559 rfl rfl rfl ?_
  refine zz_E.n 560 rfl rfl rfl ?_
  refine zz_E.n 561 rfl rfl rfl ?_
  refine zz_E.n 562 rfl rfl rfl ?_
  refine zz_E.n 563 rfl rfl rfl ?_
  refine zz_E.n 564 rfl rfl rfl ?_
  refine zz_E.n 565 rfl rfl rfl ?_
  refine zz_E.n 566 rfl rfl rfl ?_
  refine zz_E.n 567 rfl rfl rfl ?_
  refine zz_E.n 568 rfl rfl rfl ?_
  refine zz_E.n 569 rfl rfl rfl ?_
  refine zz_E.n 570 rfl rfl rfl ?_
  refine zz_E.n 571 rfl rfl rfl ?_
  refine zz_E.cl (M' := zm_81) 574 rfl rfl (by decide) rfl rfl ⟨rfl, Nat.le_of_ble_eq_true rfl⟩ rfl ?_
  refine zz_E.n 1 rfl rfl rfl ?_
  refine zz_E.n 2 rfl rfl rfl ?_
  refine zz_E.cl (M' := zm_79) 5 rfl rfl (by decide) rfl rfl ⟨rfl, Nat.le_of_ble_eq_true rfl⟩ rfl ?_
  refine zz_E.n 1 rfl rfl rfl ?_
  refine zz_E.cl (M' := zm_73) 4 rfl rfl (by decide) rfl rfl ⟨rfl, Nat.le_of_ble_eq_true rfl⟩ rfl ?_
  refine zz_E.n 1 rfl rfl rfl ?_
  refine zz_E.jt 14 rfl (by first | assumption | decide +kernel) (by decide) rfl ?_
  refine zz_E.n 15 rfl rfl rfl ?_
  refine zz_E.ret rfl rfl rfl ?_
  refine zz_E.jt 20 rfl (by first | assumption | decide +kernel) (by decide) rfl ?_
  refine zz_E.n 21 rfl rfl rfl ?_
  refine zz_E.ret rfl rfl rfl ?_
  refine zz_E.n 7 rfl rfl rfl ?_
  refine zz_E.n 9 rfl rfl rfl ?_
  refine zz_E.jf 12 rfl (by first | assumption | decide +kernel) (by decide) rfl ?_
  refine zz_E.n 13 rfl rfl rfl ?_
  refine zz_E.ret rfl rfl rfl ?_
  refine zz_E.kt 652 rfl (by first | assumption | decide +kernel) (by decide) rfl ?_
  refine zz_E.n 655 rfl rfl rfl ?_
  refine zz_E.n 18 rfl rfl rfl ?_
  refine zz_E.n 19 rfl rfl rfl ?_
  refine zz_E.n 20 rfl rfl rfl ?_
  refine zz_E.n 21 rfl rfl rfl ?_
  refine zz_E.n 23 rfl rfl rfl ?_
  refine zz_E.n 24 rfl rfl rfl ?_
  refine zz_E.kt 658 rfl (by first | assumption | decide +kernel) (by decide) rfl ?_
  refine zz_E.n 659 rfl rfl rfl ?_
  refine zz_E.ret rfl rfl rfl ?_
  exact ⟨rfl, by decide +kernel, by decide +kernel⟩
set_option maxRecDepth 100000 in
set_option maxHeartbeats 8000000 in
theorem zv_g14 (xs : Nat → Int32) (h0 : zz_cond .lt (xs 1) 0 = false) (h1 : zz_cond .ge (xs 1) 8 = true) : zz_E zp_P zt_tf zt_fd (zt_X 6 xs) 1000 zm_law 33 zv_L [.int (nI 14)] zv_h zv_Q := by
  refine zz_E.n 536 rfl rfl rfl ?_
  refine zz_E.n 537 rfl rfl rfl ?_
  refine zz_E.n 538 rfl rfl rfl ?_
  refine zz_E.n 539 rfl rfl rfl ?_
  refine zz_E.n 540 rfl rfl rfl ?_
  refine zz_E.n 541 rfl rfl rfl ?_
  refine zz_E.n 542 rfl rfl rfl ?_
  refine zz_E.n 543 rfl rfl rfl ?_
  refine zz_E.n 544 rfl rfl rfl ?_
  refine zz_E.n 545 rfl rfl rfl ?_
  refine zz_E.n 546 rfl rfl rfl ?_
  refine zz_E.n 547 rfl rfl rfl ?_
  refine zz_E.n 548 rfl rfl rfl ?_
  refine zz_E.n 549 rfl rfl rfl ?_
  refine zz_E.n 550 rfl rfl rfl ?_
  refine zz_E.n 551 rfl rfl rfl ?_
  refine zz_E.n 552 rfl rfl rfl ?_
  refine zz_E.cl (M' := zm_16) 555 rfl rfl (by decide) rfl rfl ⟨rfl, Nat.le_of_ble_eq_true rfl⟩ rfl ?_
  refine zz_E.n 1 rfl rfl rfl ?_
  refine zz_E.cl (M' := zm_21) 4 rfl rfl (by decide) rfl rfl ⟨rfl, Nat.le_of_ble_eq_true rfl⟩ rfl ?_
  refine zz_E.n 1 rfl rfl rfl ?_
  refine zz_E.jf 4 rfl (by first | assumption | decide +kernel) (by decide) rfl ?_
  refine zz_E.n 5 rfl rfl rfl ?_
  refine zz_E.n 7 rfl rfl rfl ?_
  refine zz_E.kt 14 rfl (by first | assumption | decide +kernel) (by decide) rfl ?_
  refine zz_E.n 15 rfl rfl rfl ?_
  refine zz_E.ret rfl rfl rfl ?_
  refine zz_E.jt 19 rfl (by first | assumption | decide +kernel) (by decide) rfl ?_
  refine zz_E.n 20 rfl rfl rfl ?_
  refine zz_E.ret rfl rfl rfl ?_
  refine zz_E.n 556 rfl rfl rfl ?_
  refine zz_E.n 557 rfl rfl rfl ?_
  refine zz_E.n 558 rfl rfl rfl ?_
  refine zz_E.n 559 rfl rfl rfl ?_
  refine zz_E.n 560 rfl rfl rfl ?_
  refine zz_E.n 561 rfl rfl rfl ?_
  refine zz_E.n 562 rfl rfl rfl ?_
  refine zz_E.n 563 rfl rfl rfl ?_
  refine zz_E.n 564 rfl rfl rfl ?_
  refine zz_E.n 565 rfl rfl rfl ?_
  refine zz_E.n 566 rfl rfl rfl ?_
  refine zz_E.n 567 rfl rfl rfl ?_
  refine zz_E.n 568 rfl rfl rfl ?_
  refine zz_E.n 569 rfl rfl rfl ?_
  refine zz_E.n 570 rfl rfl rfl ?_
  refine zz_E.n 571 rfl rfl rfl ?_
  refine zz_E.cl (M' := zm_81) 574 rfl rfl (by decide) rfl rfl ⟨rfl, Nat.le_of_ble_eq_true rfl⟩ rfl ?_
  refine zz_E.n 1 rfl rfl rfl ?_
  refine zz_E.n 2 rfl rfl rfl ?_
  refine zz_E.cl (M' := zm_79) 5 rfl rfl (by decide) rfl rfl ⟨rfl, Nat.le_of_ble_eq_true rfl⟩ rfl ?_
  refine zz_E.n 1 rfl rfl rfl ?_
  refine zz_E.cl (M' := zm_73) 4 rfl rfl (by decide) rfl rfl ⟨rfl, Nat.le_of_ble_eq_true rfl⟩ rfl ?_
  refine zz_E.n 1 rfl rfl rfl ?_
  refine zz_E.jf 4 rfl (by first | assumption | decide +kernel) (by decide) rfl ?_
  refine zz_E.n 5 rfl rfl rfl ?_
  refine zz_E.n 7 rfl rfl rfl ?_
  refine zz_E.kt 14 rfl (by first | assumption | decide +kernel) (by decide) rfl ?_
  refine zz_E.n 15 rfl rfl rfl ?_
  refine zz_E.ret rfl rfl rfl ?_
  refine zz_E.jt 20 rfl (by first | assumption | decide +kernel) (by decide) rfl ?_
  refine zz_E.n 21 rfl rfl rfl ?_
  refine zz_E.ret rfl rfl rfl ?_
  refine zz_E.n 7 rfl rfl rfl ?_
  refine zz_E.n 9 rfl rfl rfl ?_
  refine zz_E.jf 12 rfl (by first | assumption | decide +kernel) (by decide) rfl ?_
  refine zz_E.n 13 rfl rfl rfl ?_
  refine zz_E.ret rfl rfl rfl ?_
  refine zz_E.kt 652 rfl (by first | assumption | decide +kernel) (by decide) rfl ?_
  refine zz_E.n 655 rfl rfl rfl ?_
  refine zz_E.n 18 rfl rfl rfl ?_
  refine zz_E.n 19 rfl rfl rfl ?_
  refine zz_E.n 20 rfl rfl rfl ?_
  refine zz_E.n 21 rfl rfl rfl ?_
  refine zz_E.n 23 rfl rfl rfl ?_
  refine zz_E.n 24 rfl rfl rfl ?_
  refine zz_E.kt 658 rfl (by first | assumption | decide +kernel) (by decide) rfl ?_
  refine zz_E.n 659 rfl rfl rfl ?_
  refine zz_E.ret rfl rfl rfl ?_
  exact ⟨rfl, by decide +kernel, by decide +kernel⟩
set_option maxRecDepth 100000 in
set_option maxHeartbeats 8000000 in
theorem zv_n15 (xs : Nat → Int32) (h0 : zz_cond .lt (xs 1) 0 = true) : zz_E zp_P zt_tf zt_fd (zt_X 6 xs) 1000 zm_law 33 zv_L [.int (nI 15)] zv_h zv_Q := by
  refine zz_E.n 579 rfl rfl rfl ?_
  refine zz_E.n 580 rfl rfl rfl ?_
  refine zz_E.n 581 rfl rfl rfl ?_
  refine zz_E.n 582 rfl rfl rfl ?_
  refine zz_E.n 583 rfl rfl rfl ?_
  refine zz_E.n 584 rfl rfl rfl ?_
  refine zz_E.n 585 rfl rfl rfl ?_
  refine zz_E.n 586 rfl rfl rfl ?_
  refine zz_E.n 587 rfl rfl rfl ?_
  refine zz_E.n 588 rfl rfl rfl ?_
  refine zz_E.n 589 rfl rfl rfl ?_
  refine zz_E.n 590 rfl rfl rfl ?_
  refine zz_E.cl (M' := zm_17) 593 rfl rfl (by decide) rfl rfl ⟨rfl, Nat.le_of_ble_eq_true rfl⟩ rfl ?_
  refine zz_E.n 1 rfl rfl rfl ?_
  refine zz_E.cl (M' := zm_21) 4 rfl rfl (by decide) rfl rfl ⟨rfl, Nat.le_of_ble_eq_true rfl⟩ rfl ?_
  refine zz_E.n 1 rfl rfl rfl ?_
  refine zz_E.jt 14 rfl (by first | assumption | decide +kernel) (by decide) rfl ?_
  refine zz_E.n 15 rfl rfl rfl ?_
  refine zz_E.ret rfl rfl rfl ?_
  refine zz_E.jt 30 rfl (by first | assumption | decide +kernel) (by decide) rfl ?_
  refine zz_E.n 31 rfl rfl rfl ?_
  refine zz_E.ret rfl rfl rfl ?_
  refine zz_E.n 594 rfl rfl rfl ?_
  refine zz_E.n 595 rfl rfl rfl ?_
  refine zz_E.n 596 rfl rfl rfl ?_
  refine zz_E.n 597 rfl rfl rfl ?_
  refine zz_E.n 598 rfl rfl rfl ?_
  refine zz_E.n 599 rfl rfl rfl ?_
  refine zz_E.n 600 rfl rfl rfl ?_
  refine zz_E.n 601 rfl rfl rfl ?_
  refine zz_E.n 602 rfl rfl rfl ?_
  refine zz_E.n 603 rfl rfl rfl ?_
  refine zz_E.n 604 rfl rfl rfl ?_
  refine zz_E.cl (M' := zm_82) 607 rfl rfl (by decide) rfl rfl ⟨rfl, Nat.le_of_ble_eq_true rfl⟩ rfl ?_
  refine zz_E.n 1 rfl rfl rfl ?_
  refine zz_E.cl (M' := zm_73) 4 rfl rfl (by decide) rfl rfl ⟨rfl, Nat.le_of_ble_eq_true rfl⟩ rfl ?_
  refine zz_E.n 1 rfl rfl rfl ?_
  refine zz_E.jt 14 rfl (by first | assumption | decide +kernel) (by decide) rfl ?_
  refine zz_E.n 15 rfl rfl rfl ?_
  refine zz_E.ret rfl rfl rfl ?_
  refine zz_E.jt 14 rfl (by first | assumption | decide +kernel) (by decide) rfl ?_
  refine zz_E.n 15 rfl rfl rfl ?_
  refine zz_E.ret rfl rfl rfl ?_
  refine zz_E.kt 652 rfl (by first | assumption | decide +kernel) (by decide) rfl ?_
  refine zz_E.n 655 rfl rfl rfl ?_
  refine zz_E.n 18 rfl rfl rfl ?_
  refine zz_E.n 19 rfl rfl rfl ?_
  refine zz_E.n 20 rfl rfl rfl ?_
  refine zz_E.n 21 rfl rfl rfl ?_
  refine zz_E.n 23 rfl rfl rfl ?_
  refine zz_E.n 24 rfl rfl rfl ?_
  refine zz_E.kt 658 rfl (by first | assumption | decide +kernel) (by decide) rfl ?_
  refine zz_E.n 659 rfl rfl rfl ?_
  refine zz_E.ret rfl rfl rfl ?_
  exact ⟨rfl, by decide +kernel, by decide +kernel⟩
set_option maxRecDepth 100000 in
set_option maxHeartbeats 8000000 in
theorem zv_g15 (xs : Nat → Int32) (h0 : zz_cond .lt (xs 1) 0 = false) (h1 : zz_cond .ge (xs 1) 8 = true) : zz_E zp_P zt_tf zt_fd (zt_X 6 xs) 1000 zm_law 33 zv_L [.int (nI 15)] zv_h zv_Q := by
  refine zz_E.n 579 rfl rfl rfl ?_
  refine zz_E.n 580 rfl rfl rfl ?_
  refine zz_E.n 581 rfl rfl rfl ?_
  refine zz_E.n 582 rfl rfl rfl ?_
  refine zz_E.n 583 rfl rfl rfl ?_
  refine zz_E.n 584 rfl rfl rfl ?_
  refine zz_E.n 585 rfl rfl rfl ?_
  refine zz_E.n 586 rfl rfl rfl ?_
  refine zz_E.n 587 rfl rfl rfl ?_
  refine zz_E.n 588 rfl rfl rfl ?_
  refine zz_E.n 589 rfl rfl rfl ?_
  refine zz_E.n 590 rfl rfl rfl ?_
  refine zz_E.cl (M' := zm_17) 593 rfl rfl (by decide) rfl rfl ⟨rfl, Nat.le_of_ble_eq_true rfl⟩ rfl ?_
  refine zz_E.n 1 rfl rfl rfl ?_
  refine zz_E.cl (M' := zm_21) 4 rfl rfl (by decide) rfl rfl ⟨rfl, Nat.le_of_ble_eq_true rfl⟩ rfl ?_
  refine zz_E.n 1 rfl rfl rfl ?_
  refine zz_E.jf 4 rfl (by first | assumption | decide +kernel) (by decide) rfl ?_
  refine zz_E.n 5 rfl rfl rfl ?_
  refine zz_E.n 7 rfl rfl rfl ?_
  refine zz_E.kt 14 rfl (by first | assumption | decide +kernel) (by decide) rfl ?_
  refine zz_E.n 15 rfl rfl rfl ?_
  refine zz_E.ret rfl rfl rfl ?_
  refine zz_E.jt 30 rfl (by first | assumption | decide +kernel) (by decide) rfl ?_
  refine zz_E.n 31 rfl rfl rfl ?_
  refine zz_E.ret rfl rfl rfl ?_
  refine zz_E.n 594 rfl rfl rfl ?_
  refine zz_E.n 595 rfl rfl rfl ?_
  refine zz_E.n 596 rfl rfl rfl ?_
  refine zz_E.n 597 rfl rfl rfl ?_
  refine zz_E.n 598 rfl rfl rfl ?_
  refine zz_E.n 599 rfl rfl rfl ?_
  refine zz_E.n 600 rfl rfl rfl ?_
  refine zz_E.n 601 rfl rfl rfl ?_
  refine zz_E.n 602 rfl rfl rfl ?_
  refine zz_E.n 603 rfl rfl rfl ?_
  refine zz_E.n 604 rfl rfl rfl ?_
  refine zz_E.cl (M' := zm_82) 607 rfl rfl (by decide) rfl rfl ⟨rfl, Nat.le_of_ble_eq_true rfl⟩ rfl ?_
  refine zz_E.n 1 rfl rfl rfl ?_
  refine zz_E.cl (M' := zm_73) 4 rfl rfl (by decide) rfl rfl ⟨rfl, Nat.le_of_ble_eq_true rfl⟩ rfl ?_
  refine zz_E.n 1 rfl rfl rfl ?_
  refine zz_E.jf 4 rfl (by first | assumption | decide +kernel) (by decide) rfl ?_
  refine zz_E.n 5 rfl rfl rfl ?_
  refine zz_E.n 7 rfl rfl rfl ?_
  refine zz_E.kt 14 rfl (by first | assumption | decide +kernel) (by decide) rfl ?_
  refine zz_E.n 15 rfl rfl rfl ?_
  refine zz_E.ret rfl rfl rfl ?_
  refine zz_E.jt 14 rfl (by first | assumption | decide +kernel) (by decide) rfl ?_
  refine zz_E.n 15 rfl rfl rfl ?_
  refine zz_E.ret rfl rfl rfl ?_
  refine zz_E.kt 652 rfl (by first | assumption | decide +kernel) (by decide) rfl ?_
  refine zz_E.n 655 rfl rfl rfl ?_
  refine zz_E.n 18 rfl rfl rfl ?_
  refine zz_E.n 19 rfl rfl rfl ?_
  refine zz_E.n 20 rfl rfl rfl ?_
  refine zz_E.n 21 rfl rfl rfl ?_
  refine zz_E.n 23 rfl rfl rfl ?_
  refine zz_E.n 24 rfl rfl rfl ?_
  refine zz_E.kt 658 rfl (by first | assumption | decide +kernel) (by decide) rfl ?_
  refine zz_E.n 659 rfl rfl rfl ?_
  refine zz_E.ret rfl rfl rfl ?_
  exact ⟨rfl, by decide +kernel, by decide +kernel⟩
set_option maxRecDepth 100000 in
set_option maxHeartbeats 8000000 in
theorem zv_n15b (xs : Nat → Int32) (h0 : zz_cond .lt (xs 1) 0 = false) (h1 : zz_cond .ge (xs 1) 8 = false) (h2 : zz_cond .lt (xs 2) 0 = true) : zz_E zp_P zt_tf zt_fd (zt_X 6 xs) 1000 zm_law 33 zv_L [.int (nI 15)] zv_h zv_Q := by
  refine zz_E.n 579 rfl rfl rfl ?_
  refine zz_E.n 580 rfl rfl rfl ?_
  refine zz_E.n 581 rfl rfl rfl ?_
  refine zz_E.n 582 rfl rfl rfl ?_
  refine zz_E.n 583 rfl rfl rfl ?_
  refine zz_E.n 584 rfl rfl rfl ?_
  refine zz_E.n 585 rfl rfl rfl ?_
  refine zz_E.n 586 rfl rfl rfl ?_
  refine zz_E.n 587 rfl rfl rfl ?_
  refine zz_E.n 588 rfl rfl rfl ?_
  refine zz_E.n 589 rfl rfl rfl ?_
  refine zz_E.n 590 rfl rfl rfl ?_
  refine zz_E.cl (M' := zm_17) 593 rfl rfl (by decide) rfl rfl ⟨rfl, Nat.le_of_ble_eq_true rfl⟩ rfl ?_
  refine zz_E.n 1 rfl rfl rfl ?_
  refine zz_E.cl (M' := zm_21) 4 rfl rfl (by decide) rfl rfl ⟨rfl, Nat.le_of_ble_eq_true rfl⟩ rfl ?_
  refine zz_E.n 1 rfl rfl rfl ?_
  refine zz_E.jf 4 rfl (by first | assumption | decide +kernel) (by decide) rfl ?_
  refine zz_E.n 5 rfl rfl rfl ?_
  refine zz_E.n 7 rfl rfl rfl ?_
  refine zz_E.kf 10 rfl (by first | assumption | decide +kernel) (by decide) rfl ?_
  refine zz_E.n 11 rfl rfl rfl ?_
  refine zz_E.n 15 rfl rfl rfl ?_
  refine zz_E.ret rfl rfl rfl ?_
  refine zz_E.jf 7 rfl (by first | assumption | decide +kernel) (by decide) rfl ?_
  refine zz_E.n 8 rfl rfl rfl ?_
  refine zz_E.cl (M' := zm_21) 11 rfl rfl (by decide) rfl rfl ⟨rfl, Nat.le_of_ble_eq_true rfl⟩ rfl ?_
  refine zz_E.n 1 rfl rfl rfl ?_
  refine zz_E.jt 14 rfl (by first | assumption | decide +kernel) (by decide) rfl ?_
  refine zz_E.n 15 rfl rfl rfl ?_
  refine zz_E.ret rfl rfl rfl ?_
  refine zz_E.jt 30 rfl (by first | assumption | decide +kernel) (by decide) rfl ?_
  refine zz_E.n 31 rfl rfl rfl ?_
  refine zz_E.ret rfl rfl rfl ?_
  refine zz_E.n 594 rfl rfl rfl ?_
  refine zz_E.n 595 rfl rfl rfl ?_
  refine zz_E.n 596 rfl rfl rfl ?_
  refine zz_E.n 597 rfl rfl rfl ?_
  refine zz_E.n 598 rfl rfl rfl ?_
  refine zz_E.n 599 rfl rfl rfl ?_
  refine zz_E.n 600 rfl rfl rfl ?_
  refine zz_E.n 601 rfl rfl rfl ?_
  refine zz_E.n 602 rfl rfl rfl ?_
  refine zz_E.n 603 rfl rfl rfl ?_
  refine zz_E.n 604 rfl rfl rfl ?_
  refine zz_E.cl (M' := zm_82) 607 rfl rfl (by decide) rfl rfl ⟨rfl, Nat.le_of_ble_eq_true rfl⟩ rfl ?_
  refine zz_E.n 1 rfl rfl rfl ?_
  refine zz_E.cl (M' := zm_73) 4 rfl rfl (by decide) rfl rfl ⟨rfl, Nat.le_of_ble_eq_true rfl⟩ rfl ?_
  refine zz_E.n 1 rfl rfl rfl ?_
  refine zz_E.jf 4 rfl (by first | assumption | decide +kernel) (by decide) rfl ?_
  refine zz_E.n 5 rfl rfl rfl ?_
  refine zz_E.n 7 rfl rfl rfl ?_
  refine zz_E.kf 10 rfl (by first | assumption | decide +kernel) (by decide) rfl ?_
  refine zz_E.n 11 rfl rfl rfl ?_
  refine zz_E.n 15 rfl rfl rfl ?_
  refine zz_E.ret rfl rfl rfl ?_
  refine zz_E.jf 7 rfl (by first | assumption | decide +kernel) (by decide) rfl ?_
  refine zz_E.n 8 rfl rfl rfl ?_
  refine zz_E.cl (M' := zm_73) 11 rfl rfl (by decide) rfl rfl ⟨rfl, Nat.le_of_ble_eq_true rfl⟩ rfl ?_
  refine zz_E.n 1 rfl rfl rfl ?_
  refine zz_E.jt 14 rfl (by first | assumption | decide +kernel) (by decide) rfl ?_
  refine zz_E.n 15 rfl rfl rfl ?_
  refine zz_E.ret rfl rfl rfl ?_
  refine zz_E.jf 14 rfl (by first | assumption | decide +kernel) (by decide) rfl ?_
  refine zz_E.n 15 rfl rfl rfl ?_
  refine zz_E.ret rfl rfl rfl ?_
  refine zz_E.kt 652 rfl (by first | assumption | decide +kernel) (by decide) rfl ?_
  refine zz_E.n 655 rfl rfl rfl ?_
  refine zz_E.n 18 rfl rfl rfl ?_
  refine zz_E.n 19 rfl rfl rfl ?_
  refine zz_E.n 20 rfl rfl rfl ?_
  refine zz_E.n 21 rfl rfl rfl ?_
  refine zz_E.n 23 rfl rfl rfl ?_
  refine zz_E.n 24 rfl rfl rfl ?_
  refine zz_E.kt 658 rfl (by first | assumption | decide +kernel) (by decide) rfl ?_
  refine zz_E.n 659 rfl rfl rfl ?_
  refine zz_E.ret rfl rfl rfl ?_
  exact ⟨rfl, by decide +kernel, by decide +kernel⟩
set_option maxRecDepth 100000 in
set_option maxHeartbeats 8000000 in
theorem zv_g15b (xs : Nat → Int32) (h0 : zz_cond .lt (xs 1) 0 = false) (h1 : zz_cond .ge (xs 1) 8 = false) (h2 : zz_cond .lt (xs 2) 0 = false) (h3 : zz_cond .ge (xs 2) 8 = true) : zz_E zp_P zt_tf zt_fd (zt_X 6 xs) 1000 zm_law 33 zv_L [.int (nI 15)] zv_h zv_Q := by
  refine zz_E.n 579 rfl rfl rfl ?_
  refine zz_E.n 580 rfl rfl rfl ?_
  refine zz_E.n 581 rfl rfl rfl ?_
  refine zz_E.n 582 rfl rfl rfl ?_
  refine zz_E.n 583 rfl rfl rfl ?_
  refine zz_E.n 584 rfl rfl rfl ?_
  refine zz_E.n 585 rfl rfl rfl ?_
  refine zz_E.n 586 rfl rfl rfl ?_
  refine zz_E.n 587 rfl rfl rfl ?_
  refine zz_E.n 588 rfl rfl rfl ?_
  refine zz_E.n 589 rfl rfl rfl ?_
  refine zz_E.n 590 rfl rfl rfl ?_
  refine zz_E.cl (M' := zm_17) 593 rfl rfl (by decide) rfl rfl ⟨rfl, Nat.le_of_ble_eq_true rfl⟩ rfl ?_
  refine zz_E.n 1 rfl rfl rfl ?_
  refine zz_E.cl (M' := zm_21) 4 rfl rfl (by decide) rfl rfl ⟨rfl, Nat.le_of_ble_eq_true rfl⟩ rfl ?_
  refine zz_E.n 1 rfl rfl rfl ?_
  refine zz_E.jf 4 rfl (by first | assumption | decide +kernel) (by decide) rfl ?_
  refine zz_E.n 5 rfl rfl rfl ?_
  refine zz_E.n 7 rfl rfl rfl ?_
  refine zz_E.kf 10 rfl (by first | assumption | decide +kernel) (by decide) rfl ?_
  refine zz_E.n 11 rfl rfl rfl ?_
  refine zz_E.n 15 rfl rfl rfl ?_
  refine zz_E.ret rfl rfl rfl ?_
  refine zz_E.jf 7 rfl (by first | assumption | decide +kernel) (by decide) rfl ?_
  refine zz_E.n 8 rfl rfl rfl ?_
  refine zz_E.cl (M' := zm_21) 11 rfl rfl (by decide) rfl rfl ⟨rfl, Nat.le_of_ble_eq_true rfl⟩ rfl ?_
  refine zz_E.n 1 rfl rfl rfl ?_
  refine zz_E.jf 4 rfl (by first | assumption | decide +kernel) (by decide) rfl ?_
  refine zz_E.n 5 rfl rfl rfl ?_
  refine zz_E.n 7 rfl rfl rfl ?_
  refine zz_E.kt 14 rfl (by first | assumption | decide +kernel) (by decide) rfl ?_
  refine zz_E.n 15 rfl rfl rfl ?_
  refine zz_E.ret rfl rfl rfl ?_
  refine zz_E.jt 30 rfl (by first | assumption | decide +kernel) (by decide) rfl ?_
  refine zz_E.n 31 rfl rfl rfl ?_
  refine zz_E.ret rfl rfl rfl ?_
  refine zz_E.n 594 rfl rfl rfl ?_
  refine zz_E.n 595 rfl rfl rfl ?_
  refine zz_E.n 596 rfl rfl rfl ?_
  refine zz_E.n 597 rfl rfl rfl ?_
  refine zz_E.n 598 rfl rfl rfl ?_
  refine zz_E.n 599 rfl rfl rfl ?_
  refine zz_E.n 600 rfl rfl rfl ?_
  refine zz_E.n 601 rfl rfl rfl ?_
  refine zz_E.n 602 rfl rfl rfl ?_
  refine zz_E.n 603 rfl rfl rfl ?_
  refine zz_E.n 604 rfl rfl rfl ?_
  refine zz_E.cl (M' := zm_82) 607 rfl rfl (by decide) rfl rfl ⟨rfl, Nat.le_of_ble_eq_true rfl⟩ rfl ?_
  refine zz_E.n 1 rfl rfl rfl ?_
  refine zz_E.cl (M' := zm_73) 4 rfl rfl (by decide) rfl rfl ⟨rfl, Nat.le_of_ble_eq_true rfl⟩ rfl ?_
  refine zz_E.n 1 rfl rfl rfl ?_
  refine zz_E.jf 4 rfl (by first | assumption | decide +kernel) (by decide) rfl ?_
  refine zz_E.n 5 rfl rfl rfl ?_
  refine zz_E.n 7 rfl rfl rfl ?_
  refine zz_E.kf 10 rfl (by first | assumption | decide +kernel) (by decide) rfl ?_
  refine zz_E.n 11 rfl rfl rfl ?_
  refine zz_E.n 15 rfl rfl rfl ?_
  refine zz_E.ret rfl rfl rfl ?_
  refine zz_E.jf 7 rfl (by first | assumption | decide +kernel) (by decide) rfl ?_
  refine zz_E.n 8 rfl rfl rfl ?_
  refine zz_E.cl (M' := zm_73) 11 rfl rfl (by decide) rfl rfl ⟨rfl, Nat.le_of_ble_eq_true rfl⟩ rfl ?_
  refine zz_E.n 1 rfl rfl rfl ?_
  refine zz_E.jf 4 rfl (by first | assumption | decide +kernel) (by decide) rfl ?_
  refine zz_E.n 5 rfl rfl rfl ?_
  refine zz_E.n 7 rfl rfl rfl ?_
  refine zz_E.kt 14 rfl (by first | assumption | decide +kernel) (by decide) rfl ?_
  refine zz_E.n 15 rfl rfl rfl ?_
  refine zz_E.ret rfl rfl rfl ?_
  refine zz_E.jf 14 rfl (by first | assumption | decide +kernel) (by decide) rfl ?_
  refine zz_E.n 15 rfl rfl rfl ?_
  refine zz_E.ret rfl rfl rfl ?_
  refine zz_E.kt 652 rfl (by first | assumption | decide +kernel) (by decide) rfl ?_
  refine zz_E.n 655 rfl rfl rfl ?_
  refine zz_E.n 18 rfl rfl rfl ?_
  refine zz_E.n 19 rfl rfl rfl ?_
  refine zz_E.n 20 rfl rfl rfl ?_
  refine zz_E.n 21 rfl rfl rfl ?_
  refine zz_E.n 23 rfl rfl rfl ?_
  refine zz_E.n 24 rfl rfl rfl ?_
  refine zz_E.kt 658 rfl (by first | assumption | decide +kernel) (by decide) rfl ?_
  refine zz_E.n 659 rfl rfl rfl ?_
  refine zz_E.ret rfl rfl rfl ?_
  exact ⟨rfl, by decide +kernel, by decide +kernel⟩
set_option maxRecDepth 100000 in
set_option maxHeartbeats 8000000 in
theorem zv_n1 (xs : Nat → Int32) (h0 : zz_cond .lt (xs 1) 0 = true) : zz_E zp_P zt_tf zt_fd (zt_X 6 xs) 1000 zm_law 33 zv_L [.int (nI 1)] zv_h zv_Q := by
  refine zz_E.n 187 rfl rfl rfl ?_
  refine zz_E.n 188 rfl rfl rfl ?_
  refine zz_E.n 189 rfl rfl rfl ?_
  refine zz_E.n 190 rfl rfl rfl ?_
  refine zz_E.n 191 rfl rfl rfl ?_
  refine zz_E.n 192 rfl rfl rfl ?_
  refine zz_E.n 193 rfl rfl rfl ?_
  refine zz_E.cl (M' := zm_3) 196 rfl rfl (by decide) rfl rfl ⟨rfl, Nat.le_of_ble_eq_true rfl⟩ rfl ?_
  refine zz_E.n 1 rfl rfl rfl ?_
  refine zz_E.jt 12 rfl (by first | assumption | decide +kernel) (by decide) rfl ?_
  refine zz_E.n 14 rfl rfl rfl ?_
  refine zz_E.ret rfl rfl rfl ?_
  refine zz_E.n 197 rfl rfl rfl ?_
  refine zz_E.n 198 rfl rfl rfl ?_
  refine zz_E.n 199 rfl rfl rfl ?_
  refine zz_E.n 200 rfl rfl rfl ?_
  refine zz_E.n 201 rfl rfl rfl ?_
  refine zz_E.n 202 rfl rfl rfl ?_
  refine zz_E.cl (M' := zm_59) 205 rfl rfl (by decide) rfl rfl ⟨rfl, Nat.le_of_ble_eq_true rfl⟩ rfl ?_
  refine zz_E.n 1 rfl rfl rfl ?_
  refine zz_E.jt 12 rfl (by first | assumption | decide +kernel) (by decide) rfl ?_
  refine zz_E.n 14 rfl rfl rfl ?_
  refine zz_E.ret rfl rfl rfl ?_
  refine zz_E.kt 652 rfl (by first | assumption | decide +kernel) (by decide) rfl ?_
  refine zz_E.n 655 rfl rfl rfl ?_
  refine zz_E.n 18 rfl rfl rfl ?_
  refine zz_E.n 19 rfl rfl rfl ?_
  refine zz_E.n 20 rfl rfl rfl ?_
  refine zz_E.n 21 rfl rfl rfl ?_
  refine zz_E.n 23 rfl rfl rfl ?_
  refine zz_E.n 24 rfl rfl rfl ?_
  refine zz_E.kt 658 rfl (by first | assumption | decide +kernel) (by decide) rfl ?_
  refine zz_E.n 659 rfl rfl rfl ?_
  refine zz_E.ret rfl rfl rfl ?_
  exact ⟨rfl, by decide +kernel, by decide +kernel⟩
set_option maxRecDepth 100000 in
set_option maxHeartbeats 8000000 in
theorem zv_g1 (xs : Nat → Int32) (h0 : zz_cond .lt (xs 1) 0 = false) (h1 : zz_cond .ge (xs 1) 0 = true) (h2 : zz_cond .le (xs 1) 0 = false) (h3 : zz_cond .gt (xs 1) 0 = true) : zz_E zp_P zt_tf zt_fd (zt_X 6 xs) 1000 zm_law 33 zv_L [.int (nI 1)] zv_h zv_Q := by
  refine zz_E.n 187 rfl rfl rfl ?_
  refine zz_E.n 188 rfl rfl rfl ?_
  refine zz_E.n 189 rfl rfl rfl ?_
  refine zz_E.n 190 rfl rfl rfl ?_
  refine zz_E.n 191 rfl rfl rfl ?_
  refine zz_E.n 192 rfl rfl rfl ?_
  refine zz_E.n 193 rfl rfl rfl ?_
  refine zz_E.cl (M' := zm_3) 196 rfl rfl (by decide) rfl rfl ⟨rfl, Nat.le_of_ble_eq_true rfl⟩ rfl ?_
  refine zz_E.n 1 rfl rfl rfl ?_
  refine zz_E.jf 4 rfl (by first | assumption | decide +kernel) (by decide) rfl ?_
  refine zz_E.n 5 rfl rfl rfl ?_
  refine zz_E.n 6 rfl rfl rfl ?_
  refine zz_E.n 9 rfl rfl rfl ?_
  refine zz_E.kf 12 rfl (by first | assumption | decide +kernel) (by decide) rfl ?_
  refine zz_E.n 14 rfl rfl rfl ?_
  refine zz_E.ret rfl rfl rfl ?_
  refine zz_E.n 197 rfl rfl rfl ?_
  refine zz_E.n 198 rfl rfl rfl ?_
  refine zz_E.n 199 rfl rfl rfl ?_
  refine zz_E.n 200 rfl rfl rfl ?_
  refine zz_E.n 201 rfl rfl rfl ?_
  refine zz_E.n 202 rfl rfl rfl ?_
  refine zz_E.cl (M' := zm_59) 205 rfl rfl (by decide) rfl rfl ⟨rfl, Nat.le_of_ble_eq_true rfl⟩ rfl ?_
  refine zz_E.n 1 rfl rfl rfl ?_
  refine zz_E.jf 4 rfl (by first | assumption | decide +kernel) (by decide) rfl ?_
  refine zz_E.n 5 rfl rfl rfl ?_
  refine zz_E.n 6 rfl rfl rfl ?_
  refine zz_E.n 9 rfl rfl rfl ?_
  refine zz_E.kf 12 rfl (by first | assumption | decide +kernel) (by decide) rfl ?_
  refine zz_E.n 14 rfl rfl rfl ?_
  refine zz_E.ret rfl rfl rfl ?_
  refine zz_E.kt 652 rfl (by first | assumption | decide +kernel) (by decide) rfl ?_
  refine zz_E.n 655 rfl rfl rfl ?_
  refine zz_E.n 18 rfl rfl rfl ?_
  refine zz_E.n 19 rfl rfl rfl ?_
  refine zz_E.n 20 rfl rfl rfl ?_
  refine zz_E.n 21 rfl rfl rfl ?_
  refine zz_E.n 23 rfl rfl rfl ?_
  refine zz_E.n 24 rfl rfl rfl ?_
  refine zz_E.kt 658 rfl (by first | assumption | decide +kernel) (by decide) rfl ?_
  refine zz_E.n 659 rfl rfl rfl ?_
  refine zz_E.ret rfl rfl rfl ?_
  exact ⟨rfl, by decide +kernel, by decide +kernel⟩
set_option maxRecDepth 100000 in
set_option maxHeartbeats 8000000 in
theorem zv_g2 (xs : Nat → Int32) (h0 : zz_cond .ne (xs 1) 0 = true) (h1 : zz_cond .eq (xs 1) 0 = false) (h2 : zz_cond .ne (xs 1) 1 = true) (h3 : zz_cond .eq (xs 1) 1 = false) : zz_E zp_P zt_tf zt_fd (zt_X 6 xs) 1000 zm_law 33 zv_L [.int (nI 2)] zv_h zv_Q := by
  refine zz_E.n 210 rfl rfl rfl ?_
  refine zz_E.n 211 rfl rfl rfl ?_
  refine zz_E.n 212 rfl rfl rfl ?_
  refine zz_E.n 213 rfl rfl rfl ?_
  refine zz_E.n 214 rfl rfl rfl ?_
  refine zz_E.n 215 rfl rfl rfl ?_
  refine zz_E.n 216 rfl rfl rfl ?_
  refine zz_E.cl (M' := zm_4) 219 rfl rfl (by decide) rfl rfl ⟨rfl, Nat.le_of_ble_eq_true rfl⟩ rfl ?_
  refine zz_E.n 1 rfl rfl rfl ?_
  refine zz_E.jt 9 rfl (by first | assumption | decide +kernel) (by decide) rfl ?_
  refine zz_E.n 10 rfl rfl rfl ?_
  refine zz_E.n 11 rfl rfl rfl ?_
  refine zz_E.kt 21 rfl (by first | assumption | decide +kernel) (by decide) rfl ?_
  refine zz_E.n 22 rfl rfl rfl ?_
  refine zz_E.ret rfl rfl rfl ?_
  refine zz_E.n 220 rfl rfl rfl ?_
  refine zz_E.n 221 rfl rfl rfl ?_
  refine zz_E.n 222 rfl rfl rfl ?_
  refine zz_E.n 223 rfl rfl rfl ?_
  refine zz_E.n 224 rfl rfl rfl ?_
  refine zz_E.n 225 rfl rfl rfl ?_
  refine zz_E.cl (M' := zm_65) 228 rfl rfl (by decide) rfl rfl ⟨rfl, Nat.le_of_ble_eq_true rfl⟩ rfl ?_
  refine zz_E.n 1 rfl rfl rfl ?_
  refine zz_E.jt 11 rfl (by first | assumption | decide +kernel) (by decide) rfl ?_
  refine zz_E.n 12 rfl rfl rfl ?_
  refine zz_E.n 13 rfl rfl rfl ?_
  refine zz_E.kt 23 rfl (by first | assumption | decide +kernel) (by decide) rfl ?_
  refine zz_E.n 24 rfl rfl rfl ?_
  refine zz_E.ret rfl rfl rfl ?_
  refine zz_E.kt 652 rfl (by first | assumption | decide +kernel) (by decide) rfl ?_
  refine zz_E.n 655 rfl rfl rfl ?_
  refine zz_E.n 18 rfl rfl rfl ?_
  refine zz_E.n 19 rfl rfl rfl ?_
  refine zz_E.n 20 rfl rfl rfl ?_
  refine zz_E.n 21 rfl rfl rfl ?_
  refine zz_E.n 23 rfl rfl rfl ?_
  refine zz_E.n 24 rfl rfl rfl ?_
  refine zz_E.kt 658 rfl (by first | assumption | decide +kernel) (by decide) rfl ?_
  refine zz_E.n 659 rfl rfl rfl ?_
  refine zz_E.ret rfl rfl rfl ?_
  exact ⟨rfl, by decide +kernel, by decide +kernel⟩
set_option maxRecDepth 100000 in
set_option maxHeartbeats 8000000 in
theorem zv_n3 (xs : Nat → Int32) (h0 : zz_cond .lt (xs 1) 0 = true) (h1 : zz_cond .ge (xs 1) 0 = false) : zz_E zp_P zt_tf zt_fd (zt_X 6 xs) 1000 zm_law 33 zv_L [.int (nI 3)] zv_h zv_Q := by
  refine zz_E.n 233 rfl rfl rfl ?_
  refine zz_E.n 234 rfl rfl rfl ?_
  refine zz_E.n 235 rfl rfl rfl ?_
  refine zz_E.n 236 rfl rfl rfl ?_
  refine zz_E.n 237 rfl rfl rfl ?_
  refine zz_E.n 238 rfl rfl rfl ?_
  refine zz_E.n 239 rfl rfl rfl ?_
  refine zz_E.n 240 rfl rfl rfl ?_
  refine zz_E.n 241 rfl rfl rfl ?_
  refine zz_E.n 242 rfl rfl rfl ?_
  refine zz_E.n 243 rfl rfl rfl ?_
  refine zz_E.n 244 rfl rfl rfl ?_
  refine zz_E.cl (M' := zm_5) 247 rfl rfl (by decide) rfl rfl ⟨rfl, Nat.le_of_ble_eq_true rfl⟩ rfl ?_
  refine zz_E.n 1 rfl rfl rfl ?_
  refine zz_E.n 4 rfl rfl rfl ?_
  refine zz_E.n 5 rfl rfl rfl ?_
  refine zz_E.n 6 rfl rfl rfl ?_
  refine zz_E.cl (M' := zm_33) 9 rfl rfl (by decide) rfl rfl ⟨rfl, Nat.le_of_ble_eq_true rfl⟩ rfl ?_
  refine zz_E.n 1 rfl rfl rfl ?_
  refine zz_E.jt 12 rfl (by first | assumption | decide +kernel) (by decide) rfl ?_
  refine zz_E.n 13 rfl rfl rfl ?_
  refine zz_E.ret rfl rfl rfl ?_
  refine zz_E.ret rfl rfl rfl ?_
  refine zz_E.n 248 rfl rfl rfl ?_
  refine zz_E.n 249 rfl rfl rfl ?_
  refine zz_E.n 250 rfl rfl rfl ?_
  refine zz_E.n 251 rfl rfl rfl ?_
  refine zz_E.n 252 rfl rfl rfl ?_
  refine zz_E.n 253 rfl rfl rfl ?_
  refine zz_E.n 254 rfl rfl rfl ?_
  refine zz_E.n 255 rfl rfl rfl ?_
  refine zz_E.n 256 rfl rfl rfl ?_
  refine zz_E.n 257 rfl rfl rfl ?_
  refine zz_E.n 258 rfl rfl rfl ?_
  refine zz_E.cl (M' := zm_67) 261 rfl rfl (by decide) rfl rfl ⟨rfl, Nat.le_of_ble_eq_true rfl⟩ rfl ?_
  refine zz_E.n 1 rfl rfl rfl ?_
  refine zz_E.jt 12 rfl (by first | assumption | decide +kernel) (by decide) rfl ?_
  refine zz_E.n 13 rfl rfl rfl ?_
  refine zz_E.ret rfl rfl rfl ?_
  refine zz_E.kt 652 rfl (by first | assumption | decide +kernel) (by decide) rfl ?_
  refine zz_E.n 655 rfl rfl rfl ?_
  refine zz_E.n 18 rfl rfl rfl ?_
  refine zz_E.n 19 rfl rfl rfl ?_
  refine zz_E.n 20 rfl rfl rfl ?_
  refine zz_E.n 21 rfl rfl rfl ?_
  refine zz_E.n 23 rfl rfl rfl ?_
  refine zz_E.n 24 rfl rfl rfl ?_
  refine zz_E.kt 658 rfl (by first | assumption | decide +kernel) (by decide) rfl ?_
  refine zz_E.n 659 rfl rfl rfl ?_
  refine zz_E.ret rfl rfl rfl ?_
  exact ⟨rfl, by decide +kernel, by decide +kernel⟩
set_option maxRecDepth 100000 in
set_option maxHeartbeats 8000000 in
theorem zv_g3 (xs : Nat → Int32) (h0 : zz_cond .lt (xs 1) 0 = false) (h1 : zz_cond .ge (xs 1) 0 = true) : zz_E zp_P zt_tf zt_fd (zt_X 6 xs) 1000 zm_law 33 zv_L [.int (nI 3)] zv_h zv_Q := by
  refine zz_E.n 233 rfl rfl rfl ?_
  refine zz_E.n 234 rfl rfl rfl ?_
  refine zz_E.n 235 rfl rfl rfl ?_
  refine zz_E.n 236 rfl rfl rfl ?_
  refine zz_E.n 237 rfl rfl rfl ?_
  refine zz_E.n 238 rfl rfl rfl ?_
  refine zz_E.n 239 rfl rfl rfl ?_
  refine zz_E.n 240 rfl rfl rfl ?_
  refine zz_E.n 241 rfl rfl rfl ?_
  refine zz_E.n 242 rfl rfl rfl ?_
  refine zz_E.n 243 rfl rfl rfl ?_
  refine zz_E.n 244 rfl rfl rfl ?_
  refine zz_E.cl (M' := zm_5) 247 rfl rfl (by decide) rfl rfl ⟨rfl, Nat.le_of_ble_eq_true rfl⟩ rfl ?_
  refine zz_E.n 1 rfl rfl rfl ?_
  refine zz_E.n 4 rfl rfl rfl ?_
  refine zz_E.n 5 rfl rfl rfl ?_
  refine zz_E.n 6 rfl rfl rfl ?_
  refine zz_E.cl (M' := zm_33) 9 rfl rfl (by decide) rfl rfl ⟨rfl, Nat.le_of_ble_eq_true rfl⟩ rfl ?_
  refine zz_E.n 1 rfl rfl rfl ?_
  refine zz_E.jf 4 rfl (by first | assumption | decide +kernel) (by decide) rfl ?_
  refine zz_E.n 5 rfl rfl rfl ?_
  refine zz_E.n 6 rfl rfl rfl ?_
  refine zz_E.n 9 rfl rfl rfl ?_
  refine zz_E.kf 12 rfl (by first | assumption | decide +kernel) (by decide) rfl ?_
  refine zz_E.n 13 rfl rfl rfl ?_
  refine zz_E.ret rfl rfl rfl ?_
  refine zz_E.ret rfl rfl rfl ?_
  refine zz_E.n 248 rfl rfl rfl ?_
  refine zz_E.n 249 rfl rfl rfl ?_
  refine zz_E.n 250 rfl rfl rfl ?_
  refine zz_E.n 251 rfl rfl rfl ?_
  refine zz_E.n 252 rfl rfl rfl ?_
  refine zz_E.n 253 rfl rfl rfl ?_
  refine zz_E.n 254 rfl rfl rfl ?_
  refine zz_E.n 255 rfl rfl rfl ?_
  refine zz_E.n 256 rfl rfl rfl ?_
  refine zz_E.n 257 rfl rfl rfl ?_
  refine zz_E.n 258 rfl rfl rfl ?_
  refine zz_E.cl (M' := zm_67) 261 rfl rfl (by decide) rfl rfl ⟨rfl, Nat.le_of_ble_eq_true rfl⟩ rfl ?_
  refine zz_E.n 1 rfl rfl rfl ?_
  refine zz_E.jf 4 rfl (by first | assumption | decide +kernel) (by decide) rfl ?_
  refine zz_E.n 5 rfl rfl rfl ?_
  refine zz_E.n 6 rfl rfl rfl ?_
  refine zz_E.n 9 rfl rfl rfl ?_
  refine zz_E.kf 12 rfl (by first | assumption | decide +kernel) (by decide) rfl ?_
  refine zz_E.n 13 rfl rfl rfl ?_
  refine zz_E.ret rfl rfl rfl ?_
  refine zz_E.kt 652 rfl (by first | assumption | decide +kernel) (by decide) rfl ?_
  refine zz_E.n 655 rfl rfl rfl ?_
  refine zz_E.n 18 rfl rfl rfl ?_
  refine zz_E.n 19 rfl rfl rfl ?_
  refine zz_E.n 20 rfl rfl rfl ?_
  refine zz_E.n 21 rfl rfl rfl ?_
  refine zz_E.n 23 rfl rfl rfl ?_
  refine zz_E.n 24 rfl rfl rfl ?_
  refine zz_E.kt 658 rfl (by first | assumption | decide +kernel) (by decide) rfl ?_
  refine zz_E.n 659 rfl rfl rfl ?_
  refine zz_E.ret rfl rfl rfl ?_
  exact ⟨rfl, by decide +kernel, by decide +kernel⟩
set_option maxRecDepth 100000 in
set_option maxHeartbeats 8000000 in
theorem zv_n4 (xs : Nat → Int32) (h0 : zz_cond .lt (xs 1) 0 = true) (h1 : zz_cond .ge (xs 1) 0 = false) : zz_E zp_P zt_tf zt_fd (zt_X 6 xs) 1000 zm_law 33 zv_L [.int (nI 4)] zv_h zv_Q := by
  refine zz_E.n 266 rfl rfl rfl ?_
  refine zz_E.n 267 rfl rfl rfl ?_
  refine zz_E.n 268 rfl rfl rfl ?_
  refine zz_E.n 269 rfl rfl rfl ?_
  refine zz_E.n 270 rfl rfl rfl ?_
  refine zz_E.n 271 rfl rfl rfl ?_
  refine zz_E.n 272 rfl rfl rfl ?_
  refine zz_E.n 273 rfl rfl rfl ?_
  refine zz_E.n 274 rfl rfl rfl ?_
  refine zz_E.n 275 rfl rfl rfl ?_
  refine zz_E.n 276 rfl rfl rfl ?_
  refine zz_E.n 277 rfl rfl rfl ?_
  refine zz_E.n 278 rfl rfl rfl ?_
  refine zz_E.n 279 rfl rfl rfl ?_
  refine zz_E.n 280 rfl rfl rfl ?_
  refine zz_E.n 281 rfl rfl rfl ?_
  refine zz_E.n 282 rfl rfl rfl ?_
  refine zz_E.cl (M' := zm_6) 285 rfl rfl (by decide) rfl rfl ⟨rfl, Nat.le_of_ble_eq_true rfl⟩ rfl ?_
  refine zz_E.n 1 rfl rfl rfl ?_
  refine zz_E.n 4 rfl rfl rfl ?_
  refine zz_E.n 5 rfl rfl rfl ?_
  refine zz_E.n 6 rfl rfl rfl ?_
  refine zz_E.cl (M' := zm_33) 9 rfl rfl (by decide) rfl rfl ⟨rfl, Nat.le_of_ble_eq_true rfl⟩ rfl ?_
  refine zz_E.n 1 rfl rfl rfl ?_
  refine zz_E.jt 12 rfl (by first | assumption | decide +kernel) (by decide) rfl ?_
  refine zz_E.n 13 rfl rfl rfl ?_
  refine zz_E.ret rfl rfl rfl ?_
  refine zz_E.jt 36 rfl (by first | assumption | decide +kernel) (by decide) rfl ?_
  refine zz_E.n 37 rfl rfl rfl ?_
  refine zz_E.ret rfl rfl rfl ?_
  refine zz_E.n 286 rfl rfl rfl ?_
  refine zz_E.n 287 rfl rfl rfl ?_
  refine zz_E.n 288 rfl rfl rfl ?_
  refine zz_E.n 289 rfl rfl rfl ?_
  refine zz_E.n 290 rfl rfl rfl ?_
  refine zz_E.n 291 rfl rfl rfl ?_
  refine zz_E.n 292 rfl rfl rfl ?_
  refine zz_E.n 293 rfl rfl rfl ?_
  refine zz_E.n 294 rfl rfl rfl ?_
  refine zz_E.n 295 rfl rfl rfl ?_
  refine zz_E.n 296 rfl rfl rfl ?_
  refine zz_E.n 297 rfl rfl rfl ?_
  refine zz_E.n 298 rfl rfl rfl ?_
  refine zz_E.n 299 rfl rfl rfl ?_
  refine zz_E.n 300 rfl rfl rfl ?_
  refine zz_E.n 301 rfl rfl rfl ?_
  refine zz_E.cl (M' := zm_68) 304 rfl rfl (by decide) rfl rfl ⟨rfl, Nat.le_of_ble_eq_true rfl⟩ rfl ?_
  refine zz_E.n 1 rfl rfl rfl ?_
  refine zz_E.n 4 rfl rfl rfl ?_
  refine zz_E.jt 59 rfl (by first | assumption | decide +kernel) (by decide) rfl ?_
  refine zz_E.n 60 rfl rfl rfl ?_
  refine zz_E.ret rfl rfl rfl ?_
  refine zz_E.kt 652 rfl (by first | assumption | decide +kernel) (by decide) rfl ?_
  refine zz_E.n 655 rfl rfl rfl ?_
  refine zz_E.n 18 rfl rfl rfl ?_
  refine zz_E.n 19 rfl rfl rfl ?_
  refine zz_E.n 20 rfl rfl rfl ?_
  refine zz_E.n 21 rfl rfl rfl ?_
  refine zz_E.n 23 rfl rfl rfl ?_
  refine zz_E.n 24 rfl rfl rfl ?_
  refine zz_E.kt 658 rfl (by first | assumption | decide +kernel) (by decide) rfl ?_
  refine zz_E.n 659 rfl rfl rfl ?_
  refine zz_E.ret rfl rfl rfl ?_
  exact ⟨rfl, by decide +kernel, by decide +kernel⟩
set_option maxRecDepth 100000 in
set_option maxHeartbeats 8000000 in
theorem zv_g4 (xs : Nat → Int32) (h0 : zz_cond .lt (xs 1) 0 = false) (h1 : zz_cond .ge (xs 1) 0 = true) : zz_E zp_P zt_tf zt_fd (zt_X 6 xs) 1000 zm_law 33 zv_L [.int (nI 4)] zv_h zv_Q := by
  refine zz_E.n 266 rfl rfl rfl ?_
  refine zz_E.n 267 rfl rfl rfl ?_
  refine zz_E.n 268 rfl rfl rfl ?_
  refine zz_E.n 269 rfl rfl rfl ?_
  refine zz_E.n 270 rfl rfl rfl ?_
  refine zz_E.n 271 rfl rfl rfl ?_
  refine zz_E.n 272 rfl rfl rfl ?_
  refine zz_E.n 273 rfl rfl rfl ?_
  refine zz_E.n 274 rfl rfl rfl ?_
  refine zz_E.n 275 rfl rfl rfl ?_
  refine zz_E.n 276 rfl rfl rfl ?_
  refine zz_E.n 277 rfl rfl rfl ?_
  refine zz_E.n 278 rfl rfl rfl ?_
  refine zz_E.n 279 rfl rfl rfl ?_
  refine zz_E.n 280 rfl rfl rfl ?_
  refine zz_E.n 281 rfl rfl rfl ?_
  refine zz_E.n 282 rfl rfl rfl ?_
  refine zz_E.cl (M' := zm_6) 285 rfl rfl (by decide) rfl rfl ⟨rfl, Nat.le_of_ble_eq_true rfl⟩ rfl ?_
  refine zz_E.n 1 rfl rfl rfl ?_
  refine zz_E.n 4 rfl rfl rfl ?_
  refine zz_E.n 5 rfl rfl rfl ?_
  refine zz_E.n 6 rfl rfl rfl ?_
  refine zz_E.cl (M' := zm_33) 9 rfl rfl (by decide) rfl rfl ⟨rfl, Nat.le_of_ble_eq_true rfl⟩ rfl ?_
  refine zz_E.n 1 rfl rfl rfl ?_
  refine zz_E.jf 4 rfl (by first | assumption | decide +kernel) (by decide) rfl ?_
  refine zz_E.n 5 rfl rfl rfl ?_
  refine zz_E.n 6 rfl rfl rfl ?_
  refine zz_E.n 9 rfl rfl rfl ?_
  refine zz_E.kf 12 rfl (by first | assumption | decide +kernel) (by decide) rfl ?_
  refine zz_E.n 13 rfl rfl rfl ?_
  refine zz_E.ret rfl rfl rfl ?_
  refine zz_E.jt 36 rfl (by first | assumption | decide +kernel) (by decide) rfl ?_
  refine zz_E.n 37 rfl rfl rfl ?_
  refine zz_E.ret rfl rfl rfl ?_
  refine zz_E.n 286 rfl rfl rfl ?_
  refine zz_E.n 287 rfl rfl rfl ?_
  refine zz_E.n 288 rfl rfl rfl ?_
  refine zz_E.n 289 rfl rfl rfl ?_
  refine zz_E.n 290 rfl rfl rfl ?_
  refine zz_E.n 291 rfl rfl rfl ?_
  refine zz_E.n 292 rfl rfl rfl ?_
  refine zz_E.n 293 rfl rfl rfl ?_
  refine zz_E.n 294 rfl rfl rfl ?_
  refine zz_E.n 295 rfl rfl rfl ?_
  refine zz_E.n 296 rfl rfl rfl ?_
  refine zz_E.n 297 rfl rfl rfl ?_
  refine zz_E.n 298 rfl rfl rfl ?_
  refine zz_E.n 299 rfl rfl rfl ?_
  refine zz_E.n 300 rfl rfl rfl ?_
  refine zz_E.n 301 rfl rfl rfl ?_
  refine zz_E.cl (M' := zm_68) 304 rfl rfl (by decide) rfl rfl ⟨rfl, Nat.le_of_ble_eq_true rfl⟩ rfl ?_
  refine zz_E.n 1 rfl rfl rfl ?_
  refine zz_E.n 4 rfl rfl rfl ?_
  refine zz_E.jt 59 rfl (by first | assumption | decide +kernel) (by decide) rfl ?_
  refine zz_E.n 60 rfl rfl rfl ?_
  refine zz_E.ret rfl rfl rfl ?_
  refine zz_E.kt 652 rfl (by first | assumption | decide +kernel) (by decide) rfl ?_
  refine zz_E.n 655 rfl rfl rfl ?_
  refine zz_E.n 18 rfl rfl rfl ?_
  refine zz_E.n 19 rfl rfl rfl ?_
  refine zz_E.n 20 rfl rfl rfl ?_
  refine zz_E.n 21 rfl rfl rfl ?_
  refine zz_E.n 23 rfl rfl rfl ?_
  refine zz_E.n 24 rfl rfl rfl ?_
  refine zz_E.kt 658 rfl (by first | assumption | decide +kernel) (by decide) rfl ?_
  refine zz_E.n 659 rfl rfl rfl ?_
  refine zz_E.ret rfl rfl rfl ?_
  exact ⟨rfl, by decide +kernel, by decide +kernel⟩
set_option maxRecDepth 100000 in
set_option maxHeartbeats 8000000 in
theorem zv_n6 (xs : Nat → Int32) (h0 : zz_cond .lt (xs 1) 0 = true) (h1 : zz_cond .ge (xs 1) 0 = false) : zz_E zp_P zt_tf zt_fd (zt_X 6 xs) 1000 zm_law 33 zv_L [.int (nI 6)] zv_h zv_Q := by
  refine zz_E.n 332 rfl rfl rfl ?_
  refine zz_E.n 333 rfl rfl rfl ?_
  refine zz_E.n 334 rfl rfl rfl ?_
  refine zz_E.n 335 rfl rfl rfl ?_
  refine zz_E.n 336 rfl rfl rfl ?_
  refine zz_E.n 337 rfl rfl rfl ?_
  refine zz_E.n 338 rfl rfl rfl ?_
  refine zz_E.cl (M' := zm_8) 341 rfl rfl (by decide) rfl rfl ⟨rfl, Nat.le_of_ble_eq_true rfl⟩ rfl ?_
  refine zz_E.n 1 rfl rfl rfl ?_
  refine zz_E.n 4 rfl rfl rfl ?_
  refine zz_E.n 5 rfl rfl rfl ?_
  refine zz_E.cl (M' := zm_49) 8 rfl rfl (by decide) rfl rfl ⟨rfl, Nat.le_of_ble_eq_true rfl⟩ rfl ?_
  refine zz_E.n 1 rfl rfl rfl ?_
  refine zz_E.jt 30 rfl (by first | assumption | decide +kernel) (by decide) rfl ?_
  refine zz_E.n 31 rfl rfl rfl ?_
  refine zz_E.ret rfl rfl rfl ?_
  refine zz_E.ret rfl rfl rfl ?_
  refine zz_E.n 342 rfl rfl rfl ?_
  refine zz_E.n 343 rfl rfl rfl ?_
  refine zz_E.n 344 rfl rfl rfl ?_
  refine zz_E.n 345 rfl rfl rfl ?_
  refine zz_E.n 346 rfl rfl rfl ?_
  refine zz_E.n 347 rfl rfl rfl ?_
  refine zz_E.cl (M' := zm_70) 350 rfl rfl (by decide) rfl rfl ⟨rfl, Nat.le_of_ble_eq_true rfl⟩ rfl ?_
  refine zz_E.n 1 rfl rfl rfl ?_
  refine zz_E.jt 19 rfl (by first | assumption | decide +kernel) (by decide) rfl ?_
  refine zz_E.n 20 rfl rfl rfl ?_
  refine zz_E.n 29 rfl rfl rfl ?_
  refine zz_E.ret rfl rfl rfl ?_
  refine zz_E.kt 652 rfl (by first | assumption | decide +kernel) (by decide) rfl ?_
  refine zz_E.n 655 rfl rfl rfl ?_
  refine zz_E.n 18 rfl rfl rfl ?_
  refine zz_E.n 19 rfl rfl rfl ?_
  refine zz_E.n 20 rfl rfl rfl ?_
  refine zz_E.n 21 rfl rfl rfl ?_
  refine zz_E.n 23 rfl rfl rfl ?_
  refine zz_E.n 24 rfl rfl rfl ?_
  refine zz_E.kt 658 rfl (by first | assumption | decide +kernel) (by decide) rfl ?_
  refine zz_E.n 659 rfl rfl rfl ?_
  refine zz_E.ret rfl rfl rfl ?_
  exact ⟨rfl, by decide +kernel, by decide +kernel⟩
set_option maxRecDepth 100000 in
set_option maxHeartbeats 8000000 in
theorem zv_g6 (xs : Nat → Int32) (h0 : zz_cond .lt (xs 1) 0 = false) (h1 : zz_cond .ge (xs 1) 0 = true) : zz_E zp_P zt_tf zt_fd (zt_X 6 xs) 1000 zm_law 33 zv_L [.int (nI 6)] zv_h zv_Q := by
  refine zz_E.n 332 rfl rfl rfl ?_
  refine zz_E.n 333 rfl rfl rfl ?_
  refine zz_E.n 334 rfl rfl rfl ?_
  refine zz_E.n 335 rfl rfl rfl ?_
  refine zz_E.n 336 rfl rfl rfl ?_
  refine zz_E.n 337 rfl rfl rfl ?_
  refine zz_E.n 338 rfl rfl rfl ?_
  refine zz_E.cl (M' := zm_8) 341 rfl rfl (by decide) rfl rfl ⟨rfl, Nat.le_of_ble_eq_true rfl⟩ rfl ?_
  refine zz_E.n 1 rfl rfl rfl ?_
  refine zz_E.n 4 rfl rfl rfl ?_
  refine zz_E.n 5 rfl rfl rfl ?_
  refine zz_E.cl (M' := zm_49) 8 rfl rfl (by decide) rfl rfl ⟨rfl, Nat.le_of_ble_eq_true rfl⟩ rfl ?_
  refine zz_E.n 1 rfl rfl rfl ?_
  refine zz_E.jf 4 rfl (by first | assumption | decide +kernel) (by decide) rfl ?_
  refine zz_E.n 5 rfl rfl rfl ?_
  refine zz_E.n 6 rfl rfl rfl ?_
  refine zz_E.n 9 rfl rfl rfl ?_
  refine zz_E.kt 30 rfl (by first | assumption | decide +kernel) (by decide) rfl ?_
  refine zz_E.n 31 rfl rfl rfl ?_
  refine zz_E.ret rfl rfl rfl ?_
  refine zz_E.ret rfl rfl rfl ?_
  refine zz_E.n 342 rfl rfl rfl ?_
  refine zz_E.n 343 rfl rfl rfl ?_
  refine zz_E.n 344 rfl rfl rfl ?_
  refine zz_E.n 345 rfl rfl rfl ?_
  refine zz_E.n 346 rfl rfl rfl ?_
  refine zz_E.n 347 rfl rfl rfl ?_
  refine zz_E.cl (M' := zm_70) 350 rfl rfl (by decide) rfl rfl ⟨rfl, Nat.le_of_ble_eq_true rfl⟩ rfl ?_
  refine zz_E.n 1 rfl rfl rfl ?_
  refine zz_E.jf 4 rfl (by first | assumption | decide +kernel) (by decide) rfl ?_
  refine zz_E.n 5 rfl rfl rfl ?_
  refine zz_E.n 6 rfl rfl rfl ?_
  refine zz_E.n 9 rfl rfl rfl ?_
  refine zz_E.kt 19 rfl (by first | assumption | decide +kernel) (by decide) rfl ?_
  refine zz_E.n 20 rfl rfl rfl ?_
  refine zz_E.n 29 rfl rfl rfl ?_
  refine zz_E.ret rfl rfl rfl ?_
  refine zz_E.kt 652 rfl (by first | assumption | decide +kernel) (by decide) rfl ?_
  refine zz_E.n 655 rfl rfl rfl ?_
  refine zz_E.n 18 rfl rfl rfl ?_
  refine zz_E.n 19 rfl rfl rfl ?_
  refine zz_E.n 20 rfl rfl rfl ?_
  refine zz_E.n 21 rfl rfl rfl ?_
  refine zz_E.n 23 rfl rfl rfl ?_
  refine zz_E.n 24 rfl rfl rfl ?_
  refine zz_E.kt 658 rfl (by first | assumption | decide +kernel) (by decide) rfl ?_
  refine zz_E.n 659 rfl rfl rfl ?_
  refine zz_E.ret rfl rfl rfl ?_
  exact ⟨rfl, by decide +kernel, by decide +kernel⟩
