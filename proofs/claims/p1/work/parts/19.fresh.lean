def zv_x : zz_H := [.inr (12, [.ref 1, .int 0, .ref 2, .ref 12, .ref 21, .int (-1), .int (-1), .ref 30, .ref 41, .int 0, .ref 42, .ref 45, .ref 48, .ref 49]),
  .inl (2, 320, .inl (fun _ => 0)),
  .inr (5, [.ref 3, .null, .int 0, .ref 7, .int 0, .ref 8, .ref 9, .ref 10, .ref 11, .int 0, .int 0, .int 0]),
  .inr (10, [.ref 4, .ref 5, .ref 6, .int 0, .int 0, .int 0, .int 0, .long 0]),
  .inl (0, 32, .inl (fun _ => 0)),
  .inl (0, 32, .inl (fun _ => 0)),
  .inl (1, 32, .inr (.inl (fun _ => 0))),
  .inl (1, 14, .inr (.inl (fun _ => 0))),
  .inl (0, 8, .inl (fun _ => 0)),
  .inl (1, 8, .inr (.inl (fun _ => 0))),
  .inl (0, 8, .inl (fun _ => 0)),
  .inl (0, 8, .inl (fun _ => 0)),
  .inr (6, [.ref 13, .ref 14, .ref 15, .int 0, .int 0, .ref 16, .ref 17, .ref 18, .ref 19, .ref 20]),
  .inl (0, 32, .inl (fun _ => 0)),
  .inl (0, 32, .inl (fun _ => 0)),
  .inl (0, 32, .inl (fun _ => 0)),
  .inl (1, 12, .inr (.inl (fun _ => 0))),
  .inl (0, 12, .inl (fun _ => 0)),
  .inl (0, 12, .inl (fun _ => 0)),
  .inl (0, 12, .inl (fun _ => 0)),
  .inl (0, 12, .inl (fun _ => 0)),
  .inr (6, [.ref 22, .ref 23, .ref 24, .int 0, .int 0, .ref 25, .ref 26, .ref 27, .ref 28, .ref 29]),
  .inl (0, 32, .inl (fun _ => 0)),
  .inl (0, 32, .inl (fun _ => 0)),
  .inl (0, 32, .inl (fun _ => 0)),
  .inl (1, 12, .inr (.inl (fun _ => 0))),
  .inl (0, 12, .inl (fun _ => 0)),
  .inl (0, 12, .inl (fun _ => 0)),
  .inl (0, 12, .inl (fun _ => 0)),
  .inl (0, 12, .inl (fun _ => 0)),
  .inr (7, [.ref 31, .ref 40, .int 0]),
  .inl (5, 8, .inr (.inr (.inr (.inr (fun i => if i < 8 then some (32 + i) else none))))),
  .inl (0, 4, .inl (fun _ => 0)),
  .inl (0, 4, .inl (fun _ => 0)),
  .inl (0, 4, .inl (fun _ => 0)),
  .inl (0, 4, .inl (fun _ => 0)),
  .inl (0, 4, .inl (fun _ => 0)),
  .inl (0, 4, .inl (fun _ => 0)),
  .inl (0, 4, .inl (fun _ => 0)),
  .inl (0, 4, .inl (fun _ => 0)),
  .inl (0, 8, .inl (fun _ => 0)),
  .inl (4, 6, .inr (.inr (.inr (.inr (fun _ => none))))),
  .inr (2, [.ref 43, .int 0, .ref 44, .int 0]),
  .inl (1, 128, .inr (.inl (fun _ => 0))),
  .inl (1, 32, .inr (.inl (fun _ => 0))),
  .inr (4, [.ref 46, .int 0, .ref 47]),
  .inl (2, 64, .inl (fun _ => 0)),
  .inl (2, 10, .inl (fun _ => 0)),
  .inr (9, [.int 0, .int 0, .int 0, .int 0, .int 0, .int 0, .int 0, .int (-1), .int 0]),
  .inr (3, [.ref 42, .ref 45, .ref 48, .ref 58, .ref 59, .ref 50, .ref 51, .ref 52, .int 0, .ref 53, .ref 54, .int 0, .ref 55, .ref 56, .ref 57, .int 0, .null, .int 0, .int 0]),
  .inl (1, 8, .inr (.inl (fun _ => 0))),
  .inl (3, 8, .inl (fun _ => 0)),
  .inl (1, 32, .inr (.inl (fun _ => 0))),
  .inl (0, 10, .inl (fun _ => 0)),
  .inl (0, 10, .inl (fun _ => 0)),
  .inl (0, 8, .inl (fun _ => 0)),
  .inl (0, 8, .inl (fun _ => 0)),
  .inl (0, 8, .inl (fun _ => 0)),
  .inr (8, [.ref 42, .int 0]),
  .inr (1, [.ref 42, .ref 60]),
  .inl (0, 64, .inl (fun _ => 0))]
def zv_p : Nat := 61
def zv_h : zz_H := [.inr (12, [.ref 1, .int 0, .ref 2, .ref 12, .ref 21, .int (-1), .int (-1), .ref 30, .ref 41, .int 0, .ref 42, .ref 45, .ref 48, .ref 49]),
  .inl (2, 320, .inl (fun _ => 0)),
  .inr (5, [.ref 3, .null, .int 0, .ref 7, .int 0, .ref 8, .ref 9, .ref 10, .ref 11, .int 0, .int 0, .int 0]),
  .inr (10, [.ref 4, .ref 5, .ref 6, .int 0, .int 0, .int 0, .int 0, .long 0]),
  .inl (0, 32, .inl (fun _ => 0)),
  .inl (0, 32, .inl (fun _ => 0)),
  .inl (1, 32, .inr (.inl (fun _ => 0))),
  .inl (1, 14, .inr (.inl (fun _ => 0))),
  .inl (0, 8, .inl (fun _ => 0)),
  .inl (1, 8, .inr (.inl (fun _ => 0))),
  .inl (0, 8, .inl (fun _ => 0)),
  .inl (0, 8, .inl (fun _ => 0)),
  .inr (6, [.ref 13, .ref 14, .ref 15, .int 0, .int 0, .ref 16, .ref 17, .ref 18, .ref 19, .ref 20]),
  .inl (0, 32, .inl (fun _ => 0)),
  .inl (0, 32, .inl (fun _ => 0)),
  .inl (0, 32, .inl (fun _ => 0)),
  .inl (1, 12, .inr (.inl (fun _ => 0))),
  .inl (0, 12, .inl (fun _ => 0)),
  .inl (0, 12, .inl (fun _ => 0)),
  .inl (0, 12, .inl (fun _ => 0)),
  .inl (0, 12, .inl (fun _ => 0)),
  .inr (6, [.ref 22, .ref 23, .ref 24, .int 0, .int 0, .ref 25, .ref 26, .ref 27, .ref 28, .ref 29]),
  .inl (0, 32, .inl (fun _ => 0)),
  .inl (0, 32, .inl (fun _ => 0)),
  .inl (0, 32, .inl (fun _ => 0)),
  .inl (1, 12, .inr (.inl (fun _ => 0))),
  .inl (0, 12, .inl (fun _ => 0)),
  .inl (0, 12, .inl (fun _ => 0)),
  .inl (0, 12, .inl (fun _ => 0)),
  .inl (0, 12, .inl (fun _ => 0)),
  .inr (7, [.ref 31, .ref 40, .int 0]),
  .inl (5, 8, .inr (.inr (.inr (.inr (fun i => if i < 8 then some (32 + i) else none))))),
  .inl (0, 4, .inl (fun _ => 0)),
  .inl (0, 4, .inl (fun _ => 0)),
  .inl (0, 4, .inl (fun _ => 0)),
  .inl (0, 4, .inl (fun _ => 0)),
  .inl (0, 4, .inl (fun _ => 0)),
  .inl (0, 4, .inl (fun _ => 0)),
  .inl (0, 4, .inl (fun _ => 0)),
  .inl (0, 4, .inl (fun _ => 0)),
  .inl (0, 8, .inl (fun _ => 0)),
  .inl (4, 6, .inr (.inr (.inr (.inr (fun _ => none))))),
  .inr (2, [.ref 43, .int 0, .ref 44, .int 0]),
  .inl (1, 128, .inr (.inl (fun _ => 0))),
  .inl (1, 32, .inr (.inl (fun _ => 0))),
  .inr (4, [.ref 46, .int 0, .ref 47]),
  .inl (2, 64, .inl (fun _ => 0)),
  .inl (2, 10, .inl (fun _ => 0)),
  .inr (9, [.int 0, .int 0, .int 0, .int 0, .int 0, .int 0, .int 0, .int (-1), .int 0]),
  .inr (3, [.ref 42, .ref 45, .ref 48, .ref 58, .ref 59, .ref 50, .ref 51, .ref 52, .int 0, .ref 53, .ref 54, .int 0, .ref 55, .ref 56, .ref 57, .int 0, .null, .int 0, .int 0]),
  .inl (1, 8, .inr (.inl (fun _ => 0))),
  .inl (3, 8, .inl (fun _ => 0)),
  .inl (1, 32, .inr (.inl (fun _ => 0))),
  .inl (0, 10, .inl (fun _ => 0)),
  .inl (0, 10, .inl (fun _ => 0)),
  .inl (0, 8, .inl (fun _ => 0)),
  .inl (0, 8, .inl (fun _ => 0)),
  .inl (0, 8, .inl (fun _ => 0)),
  .inr (8, [.ref 42, .int 0]),
  .inr (1, [.ref 42, .ref 60]),
  .inl (0, 64, .inl (fun _ => 0)),
  .inr (13, [.ref 62, .ref 63, .ref 64, .int 0, .int 0, .int 0, .int 0, .long 0, .int 0, .int 0, .int 0, .int 0, .int 0, .int 0, .int 0, .int 0, .ref 65, .ref 66, .ref 67, .ref 68, .ref 69, .ref 70, .int 0, .ref 71, .ref 72, .ref 73, .ref 74, .ref 75, .int 0, .int 0, .ref 76, .ref 77, .ref 78, .ref 79, .ref 80, .ref 81, .ref 82, .int 0, .ref 83, .ref 84, .ref 85, .ref 86, .ref 87, .ref 88, .int 0, .int (-1), .int (-1), .ref 89, .int 0, .ref 90, .ref 91, .int 0, .ref 92, .ref 93, .ref 94, .int 0, .int 0, .int 0, .ref 95, .ref 96, .int 0, .int 0, .int 0, .int 0, .int 0, .int 0, .int 0, .int (-1), .int 0, .int 0, .int 0, .ref 97, .ref 98, .int 0, .ref 99, .ref 100, .ref 101, .ref 102, .ref 103, .int 0, .ref 104, .ref 105, .ref 106, .ref 107, .ref 108, .ref 109, .ref 110, .int 0, .int 0, .long 0]),
  .inl (1, 41, .inr (.inl (vp_updL (vp_updL (vp_updL (vp_updL (vp_updL (vp_updL (vp_updL (vp_updL (vp_updL (vp_updL (vp_updL (vp_updL (vp_updL (vp_updL (vp_updL (vp_updL (vp_updL (vp_updL (vp_updL (vp_updL (vp_updL (vp_updL (vp_updL (vp_updL (vp_updL (vp_updL (vp_updL (vp_updL (vp_updL (vp_updL (vp_updL (vp_updL (vp_updL (vp_updL (vp_updL (vp_updL (vp_updL (vp_updL (vp_updL (vp_updL (vp_updL (fun _ => 0) 0 176) 1 249) 2 107681) 3 12387497) 4 4797) 5 257) 6 13903) 7 261347000) 8 9592700) 9 15091) 10 419) 11 13550) 12 188623) 13 315749) 14 151150) 15 365869) 16 1887) 17 381245) 18 334901377) 19 223456) 20 14431) 21 9528) 22 9734) 23 376205) 24 385418) 25 4075223) 26 40187) 27 126893) 28 409469) 29 4085899) 30 208022) 31 394691) 32 92275) 33 2774) 34 321581) 35 125041) 36 11695) 37 8399691) 38 375062) 39 99233) 40 129361))),
  .inl (0, 30, .inl (upd (upd (upd (upd (upd (upd (upd (upd (upd (upd (upd (upd (upd (upd (upd (upd (upd (upd (upd (upd (upd (upd (upd (upd (upd (upd (upd (upd (upd (upd (fun _ => 0) 0 1) 1 1) 2 1) 3 2) 4 1) 5 1) 6 1) 7 1) 8 1) 9 1) 10 1) 11 1) 12 1) 13 1) 14 1) 15 1) 16 1) 17 1) 18 1) 19 2) 20 2) 21 2) 22 2) 23 2) 24 2) 25 2) 26 2) 27 2) 28 2) 29 2)),
  .inl (2, 1620, .inl (fun _ => 0)),
  .inl (1, 24, .inr (.inl (fun _ => 0))),
  .inl (0, 24, .inl (fun _ => 0)),
  .inl (0, 24, .inl (fun _ => 0)),
  .inl (0, 24, .inl (fun _ => 0)),
  .inl (0, 24, .inl (fun _ => 0)),
  .inl (1, 14, .inr (.inl (fun _ => 0))),
  .inl (0, 8000, .inl (fun _ => 0)),
  .inl (0, 8000, .inl (fun _ => 0)),
  .inl (0, 8000, .inl (fun _ => 0)),
  .inl (0, 8000, .inl (fun _ => 0)),
  .inl (0, 8000, .inl (fun _ => 0)),
  .inl (0, 800, .inl (fun _ => 0)),
  .inl (0, 800, .inl (fun _ => 0)),
  .inl (0, 800, .inl (fun _ => 0)),
  .inl (1, 800, .inr (.inl (fun _ => 0))),
  .inl (0, 12, .inl (fun _ => 0)),
  .inl (0, 12, .inl (fun _ => 0)),
  .inl (0, 12, .inl (fun _ => 0)),
  .inl (0, 80, .inl (fun _ => 0)),
  .inl (0, 80, .inl (fun _ => 0)),
  .inl (0, 80, .inl (fun _ => 0)),
  .inl (0, 80, .inl (fun _ => 0)),
  .inl (1, 80, .inr (.inl (fun _ => 0))),
  .inl (0, 80, .inl (fun _ => 0)),
  .inl (0, 166300, .inl (upd (upd (upd (upd (upd (upd (upd (upd (fun _ => 0) 0 (-1)) 2410 (-1)) 4820 (-1)) 7230 (-1)) 9640 (-1)) 12050 (-1)) 14460 (-1)) 16870 (-1))),
  .inl (0, 9000, .inl (fun _ => 0)),
  .inl (0, 9000, .inl (fun _ => 0)),
  .inl (0, 8, .inl (fun _ => 0)),
  .inl (0, 8, .inl (fun _ => 0)),
  .inl (0, 8, .inl (fun _ => 0)),
  .inl (0, 700, .inl (fun _ => 0)),
  .inl (0, 700, .inl (fun _ => 0)),
  .inl (0, 8, .inl (fun _ => 0)),
  .inl (0, 8, .inl (fun _ => 0)),
  .inl (0, 10, .inl (fun _ => 0)),
  .inl (0, 10, .inl (fun _ => 0)),
  .inl (0, 10, .inl (fun _ => 0)),
  .inl (0, 140, .inl (fun _ => 0)),
  .inl (0, 140, .inl (fun _ => 0)),
  .inl (0, 400, .inl (fun _ => 0)),
  .inl (0, 400, .inl (fun _ => 0)),
  .inl (0, 400, .inl (fun _ => 0)),
  .inl (0, 400, .inl (fun _ => 0)),
  .inl (0, 400, .inl (fun _ => 0)),
  .inl (0, 400, .inl (fun _ => 0)),
  .inl (2, 600, .inl (fun _ => 0))]
def zv_ob (q : Option Value × zz_H) : Option Value × Bool × Bool := (q.1, decide (q.2.length ≤ 600000), decide (zz_sl zt_nf q.2 ≤ 7290000))
def zv_Q : Option Value → zz_H → Prop := fun v hf => v = some (.int 1) ∧ hf.length ≤ 600000 ∧ zz_sl zt_nf hf ≤ 7290000
abbrev zv_L : List (Nat × Value) := [(3, .int 0), (2, .ref 61), (1, .ref 0), (0, .ref zz_out)]
theorem zv_of {X : Nat → Option zz_C} {n d : Nat} {M : zz_M} {pc : Nat} {lv : List (Nat × Value)} {st : List Value} {h : zz_H} (hr : (zz_run zp_P zt_tf zt_fd X n d M pc lv st h).map zv_ob = some (some (.int 1), true, true)) : zz_E zp_P zt_tf zt_fd X d M pc lv st h zv_Q := by
  cases hq : zz_run zp_P zt_tf zt_fd X n d M pc lv st h with
  | none => rw [hq] at hr; cases hr
  | some q =>
    rw [hq] at hr
    obtain ⟨v, hf⟩ := q
    have hr := Option.some.inj hr
    have h1 := congrArg Prod.fst hr
    have h2 := congrArg (fun z => z.2.1) hr
    have h3 := congrArg (fun z => z.2.2) hr
    exact ⟨n, v, hf, hq, h1, of_decide_eq_true h2, of_decide_eq_true h3⟩
set_option maxRecDepth 100000 in
theorem zv_1 : (fun X : Nat → Option zz_C => zz_run zp_P zt_tf zt_fd X 400 999 zm_0 0 [(0, .ref 0)] [] [.inr (12, zt_fd 12)]) = (fun _ => some (none, zv_x)) := by rfl
set_option maxRecDepth 100000 in
theorem zv_2 : (fun X : Nat → Option zz_C => zz_run zp_P zt_tf zt_fd X 1100 999 zm_56 0 [(0, .ref 61)] [] (zv_x ++ [.inr (13, zt_fd 13)])) = (fun _ => some (none, zv_h)) := by rfl
set_option maxRecDepth 100000 in
set_option maxHeartbeats 4000000 in
theorem zv_law {X : Nat → Option zz_C} {Q : Option Value → zz_H → Prop} (k : zz_E zp_P zt_tf zt_fd X 1000 zm_law 18 zv_L [] zv_h Q) : zz_E zp_P zt_tf zt_fd X 1000 zm_law 0 [(0, .ref zz_out)] [] [] Q := by
  refine zz_E.i rfl rfl rfl ?_
  refine zz_E.i rfl rfl rfl ?_
  refine zz_E.call (d := 999) (M' := zm_0) rfl rfl (by decide) rfl rfl ⟨rfl, by decide⟩ ?_
  refine ⟨400, none, zv_x, congrFun zv_1 X, ?_⟩
  refine zz_E.i rfl rfl rfl ?_
  refine zz_E.i rfl rfl rfl ?_
  refine zz_E.i rfl rfl rfl ?_
  refine zz_E.call (d := 999) (M' := zm_56) rfl rfl (by decide) rfl rfl ⟨rfl, by decide⟩ ?_
  refine ⟨1100, none, zv_h, congrFun zv_2 X, ?_⟩
  refine zz_E.i rfl rfl rfl ?_
  refine zz_E.i rfl rfl rfl ?_
  refine zz_E.i rfl rfl rfl ?_
  exact k
set_option maxRecDepth 100000 in
theorem zv_end0 : (fun xs : Nat → Int32 => (zz_run zp_P zt_tf zt_fd (zt_X 0 xs) 20 1000 zm_law 18 zv_L [] zv_h).map zv_ob) = (fun _ => some (some (.int 1), true, true)) := by rfl
set_option maxRecDepth 100000 in
theorem zv_end1 : (fun xs : Nat → Int32 => (zz_run zp_P zt_tf zt_fd (zt_X 1 xs) 20 1000 zm_law 18 zv_L [] zv_h).map zv_ob) = (fun _ => some (some (.int 1), true, true)) := by rfl
set_option maxRecDepth 100000 in
theorem zv_end2 : (fun xs : Nat → Int32 => (zz_run zp_P zt_tf zt_fd (zt_X 2 xs) 20 1000 zm_law 18 zv_L [] zv_h).map zv_ob) = (fun _ => some (some (.int 1), true, true)) := by rfl
set_option maxRecDepth 100000 in
theorem zv_end3 : (fun xs : Nat → Int32 => (zz_run zp_P zt_tf zt_fd (zt_X 3 xs) 20 1000 zm_law 18 zv_L [] zv_h).map zv_ob) = (fun _ => some (some (.int 1), true, true)) := by rfl
set_option maxRecDepth 100000 in
theorem zv_end4 : (fun xs : Nat → Int32 => (zz_run zp_P zt_tf zt_fd (zt_X 4 xs) 20 1000 zm_law 18 zv_L [] zv_h).map zv_ob) = (fun _ => some (some (.int 1), true, true)) := by rfl
set_option maxRecDepth 100000 in
theorem zv_end5 : (fun xs : Nat → Int32 => (zz_run zp_P zt_tf zt_fd (zt_X 5 xs) 20 1000 zm_law 18 zv_L [] zv_h).map zv_ob) = (fun _ => some (some (.int 1), true, true)) := by rfl
