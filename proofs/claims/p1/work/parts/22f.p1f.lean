def zv_f (tx : Int32) (fx : Nat → Int32) (tm : Int32) (fm : Nat → Int32) : zz_H := [.inr (12, [.ref 1, .int tx, .ref 2, .ref 12, .ref 21, .int (-1), .int (-1), .ref 30, .ref 41, .int 0, .ref 42, .ref 45, .ref 48, .ref 49]),
  .inl (2, 320, .inl fx),
  .inr (5, [.ref 3, .null, .int 0, .ref 7, .int 0, .ref 8, .ref 9, .ref 10, .ref 11, .int 0, .int 0, .int 0]),
  .inr (10, [.ref 4, .ref 5, .ref 6, .int 0, .int 0, .int 0, .int 0, .long 0]),
  .inl (0, 32, .inl (fun _ => 0)),
  .inl (0, 32, .inl (fun _ => 0)),
  .inl (1, 32, .inr (.inl (fun _ => 0))),
  .inl (1, 14, .inr (.inl (fun _ => 0))),
  .inl (0, 8, .inl (fun _ => 0)),
  .inl (1, 8, .inr (.inl (fun _ => 0))),
  .inl (0, 8, .inl (fun _ => 0)),
  .inl (0, 8, .inl (fun _ => 0)),
  .inr (6, [.ref 13, .ref 14, .ref 15, .int 0, .int 0, .ref 16, .ref 17, .ref 18, .ref 19, .ref 20]),
  .inl (0, 32, .inl (fun _ => 0)),
  .inl (0, 32, .inl (fun _ => 0)),
  .inl (0, 32, .inl (fun _ => 0)),
  .inl (1, 12, .inr (.inl (fun _ => 0))),
  .inl (0, 12, .inl (fun _ => 0)),
  .inl (0, 12, .inl (fun _ => 0)),
  .inl (0, 12, .inl (fun _ => 0)),
  .inl (0, 12, .inl (fun _ => 0)),
  .inr (6, [.ref 22, .ref 23, .ref 24, .int 0, .int 0, .ref 25, .ref 26, .ref 27, .ref 28, .ref 29]),
  .inl (0, 32, .inl (fun _ => 0)),
  .inl (0, 32, .inl (fun _ => 0)),
  .inl (0, 32, .inl (fun _ => 0)),
  .inl (1, 12, .inr (.inl (fun _ => 0))),
  .inl (0, 12, .inl (fun _ => 0)),
  .inl (0, 12, .inl (fun _ => 0)),
  .inl (0, 12, .inl (fun _ => 0)),
  .inl (0, 12, .inl (fun _ => 0)),
  .inr (7, [.ref 31, .ref 40, .int 0]),
  .inl (5, 8, .inr (.inr (.inr (.inr (fun i => if i < 8 then some (32 + i) else none))))),
  .inl (0, 4, .inl (fun _ => 0)),
  .inl (0, 4, .inl (fun _ => 0)),
  .inl (0, 4, .inl (fun _ => 0)),
  .inl (0, 4, .inl (fun _ => 0)),
  .inl (0, 4, .inl (fun _ => 0)),
  .inl (0, 4, .inl (fun _ => 0)),
  .inl (0, 4, .inl (fun _ => 0)),
  .inl (0, 4, .inl (fun _ => 0)),
  .inl (0, 8, .inl (fun _ => 0)),
  .inl (4, 6, .inr (.inr (.inr (.inr (fun _ => none))))),
  .inr (2, [.ref 43, .int 0, .ref 44, .int 0]),
  .inl (1, 128, .inr (.inl (fun _ => 0))),
  .inl (1, 32, .inr (.inl (fun _ => 0))),
  .inr (4, [.ref 46, .int 0, .ref 47]),
  .inl (2, 64, .inl (fun _ => 0)),
  .inl (2, 10, .inl (fun _ => 0)),
  .inr (9, [.int 0, .int 0, .int 0, .int 0, .int 0, .int 0, .int 0, .int (-1), .int 0]),
  .inr (3, [.ref 42, .ref 45, .ref 48, .ref 58, .ref 59, .ref 50, .ref 51, .ref 52, .int 0, .ref 53, .ref 54, .int 0, .ref 55, .ref 56, .ref 57, .int 0, .null, .int 0, .int 0]),
  .inl (1, 8, .inr (.inl (fun _ => 0))),
  .inl (3, 8, .inl (fun _ => 0)),
  .inl (1, 32, .inr (.inl (fun _ => 0))),
  .inl (0, 10, .inl (fun _ => 0)),
  .inl (0, 10, .inl (fun _ => 0)),
  .inl (0, 8, .inl (fun _ => 0)),
  .inl (0, 8, .inl (fun _ => 0)),
  .inl (0, 8, .inl (fun _ => 0)),
  .inr (8, [.ref 42, .int 0]),
  .inr (1, [.ref 42, .ref 60]),
  .inl (0, 64, .inl (fun _ => 0)),
  .inr (13, [.ref 62, .ref 63, .ref 64, .int tm, .int 0, .int 0, .int 0, .long 0, .int 0, .int 0, .int 0, .int 0, .int 0, .int 0, .int 0, .int 0, .ref 65, .ref 66, .ref 67, .ref 68, .ref 69, .ref 70, .int 0, .ref 71, .ref 72, .ref 73, .ref 74, .ref 75, .int 0, .int 0, .ref 76, .ref 77, .ref 78, .ref 79, .ref 80, .ref 81, .ref 82, .int 0, .ref 83, .ref 84, .ref 85, .ref 86, .ref 87, .ref 88, .int 0, .int (-1), .int (-1), .ref 89, .int 0, .ref 90, .ref 91, .int 0, .ref 92, .ref 93, .ref 94, .int 0, .int 0, .int 0, .ref 95, .ref 96, .int 0, .int 0, .int 0, .int 0, .int 0, .int 0, .int 0, .int (-1), .int 0, .int 0, .int 0, .ref 97, .ref 98, .int 0, .ref 99, .ref 100, .ref 101, .ref 102, .ref 103, .int 0, .ref 104, .ref 105, .ref 106, .ref 107, .ref 108, .ref 109, .ref 110, .int 0, .int 0, .long 0]),
  .inl (1, 41, .inr (.inl (vp_updL (vp_updL (vp_updL (vp_updL (vp_updL (vp_updL (vp_updL (vp_updL (vp_updL (vp_updL (vp_updL (vp_updL (vp_updL (vp_updL (vp_updL (vp_updL (vp_updL (vp_updL (vp_updL (vp_updL (vp_updL (vp_updL (vp_updL (vp_updL (vp_updL (vp_updL (vp_updL (vp_updL (vp_updL (vp_updL (vp_updL (vp_updL (vp_updL (vp_updL (vp_updL (vp_updL (vp_updL (vp_updL (vp_updL (vp_updL (vp_updL (fun _ => 0) 0 176) 1 249) 2 107681) 3 12387497) 4 4797) 5 257) 6 13903) 7 261347000) 8 9592700) 9 15091) 10 419) 11 13550) 12 188623) 13 315749) 14 151150) 15 365869) 16 1887) 17 381245) 18 334901377) 19 223456) 20 14431) 21 9528) 22 9734) 23 376205) 24 385418) 25 4075223) 26 40187) 27 126893) 28 409469) 29 4085899) 30 208022) 31 394691) 32 92275) 33 2774) 34 321581) 35 125041) 36 11695) 37 8399691) 38 375062) 39 99233) 40 129361))),
  .inl (0, 30, .inl (upd (upd (upd (upd (upd (upd (upd (upd (upd (upd (upd (upd (upd (upd (upd (upd (upd (upd (upd (upd (upd (upd (upd (upd (upd (upd (upd (upd (upd (upd (fun _ => 0) 0 1) 1 1) 2 1) 3 2) 4 1) 5 1) 6 1) 7 1) 8 1) 9 1) 10 1) 11 1) 12 1) 13 1) 14 1) 15 1) 16 1) 17 1) 18 1) 19 2) 20 2) 21 2) 22 2) 23 2) 24 2) 25 2) 26 2) 27 2) 28 2) 29 2)),
  .inl (2, 1620, .inl fm),
  .inl (1, 24, .inr (.inl (fun _ => 0))),
  .inl (0, 24, .inl (fun _ => 0)),
  .inl (0, 24, .inl (fun _ => 0)),
  .inl (0, 24, .inl (fun _ => 0)),
  .inl (0, 24, .inl (fun _ => 0)),
  .inl (1, 14, .inr (.inl (fun _ => 0))),
  .inl (0, 8000, .inl (fun _ => 0)),
  .inl (0, 8000, .inl (fun _ => 0)),
  .inl (0, 8000, .inl (fun _ => 0)),
  .inl (0, 8000, .inl (fun _ => 0)),
  .inl (0, 8000, .inl (fun _ => 0)),
  .inl (0, 800, .inl (fun _ => 0)),
  .inl (0, 800, .inl (fun _ => 0)),
  .inl (0, 800, .inl (fun _ => 0)),
  .inl (1, 800, .inr (.inl (fun _ => 0))),
  .inl (0, 12, .inl (fun _ => 0)),
  .inl (0, 12, .inl (fun _ => 0)),
  .inl (0, 12, .inl (fun _ => 0)),
  .inl (0, 80, .inl (fun _ => 0)),
  .inl (0, 80, .inl (fun _ => 0)),
  .inl (0, 80, .inl (fun _ => 0)),
  .inl (0, 80, .inl (fun _ => 0)),
  .inl (1, 80, .inr (.inl (fun _ => 0))),
  .inl (0, 80, .inl (fun _ => 0)),
  .inl (0, 166300, .inl (upd (upd (upd (upd (upd (upd (upd (upd (fun _ => 0) 0 (-1)) 2410 (-1)) 4820 (-1)) 7230 (-1)) 9640 (-1)) 12050 (-1)) 14460 (-1)) 16870 (-1))),
  .inl (0, 9000, .inl (fun _ => 0)),
  .inl (0, 9000, .inl (fun _ => 0)),
  .inl (0, 8, .inl (fun _ => 0)),
  .inl (0, 8, .inl (fun _ => 0)),
  .inl (0, 8, .inl (fun _ => 0)),
  .inl (0, 700, .inl (fun _ => 0)),
  .inl (0, 700, .inl (fun _ => 0)),
  .inl (0, 8, .inl (fun _ => 0)),
  .inl (0, 8, .inl (fun _ => 0)),
  .inl (0, 10, .inl (fun _ => 0)),
  .inl (0, 10, .inl (fun _ => 0)),
  .inl (0, 10, .inl (fun _ => 0)),
  .inl (0, 140, .inl (fun _ => 0)),
  .inl (0, 140, .inl (fun _ => 0)),
  .inl (0, 400, .inl (fun _ => 0)),
  .inl (0, 400, .inl (fun _ => 0)),
  .inl (0, 400, .inl (fun _ => 0)),
  .inl (0, 400, .inl (fun _ => 0)),
  .inl (0, 400, .inl (fun _ => 0)),
  .inl (0, 400, .inl (fun _ => 0)),
  .inl (2, 600, .inl (fun _ => 0))]
theorem zv_f0 : zv_m27 = zv_f 0 (fun _ => 0) 0 (fun _ => 0) := by rfl
def zv_b (v s : Int32) : Int32 := vp_nar (zz_ty 2) ((v >>> (s &&& 31)).toInt8.toInt32)
set_option maxRecDepth 100000 in
theorem zv_ix0 : (fun (X : Nat → Option zz_C) (f : Nat → Int32) (t9 : Int32) (f9 : Nat → Int32) (v : Int32) => zz_go zt_tf zt_fd X 18 zm_2 3 [(2, .int 24), (0, .ref 0), (1, .int v)] [] (zv_f 0 f t9 f9)) = (fun _ f t9 f9 v => some ((3, [(2, .int 16), (0, .ref 0), (1, .int v)], []), (zv_f 1 (upd f 0 (zv_b v 24)) t9 f9))) := by rfl
set_option maxRecDepth 100000 in
theorem zv_ix1 : (fun (X : Nat → Option zz_C) (f : Nat → Int32) (t9 : Int32) (f9 : Nat → Int32) (v : Int32) => zz_go zt_tf zt_fd X 18 zm_2 3 [(2, .int 16), (0, .ref 0), (1, .int v)] [] (zv_f 1 f t9 f9)) = (fun _ f t9 f9 v => some ((3, [(2, .int 8), (0, .ref 0), (1, .int v)], []), (zv_f 2 (upd f 1 (zv_b v 16)) t9 f9))) := by rfl
set_option maxRecDepth 100000 in
theorem zv_ix2 : (fun (X : Nat → Option zz_C) (f : Nat → Int32) (t9 : Int32) (f9 : Nat → Int32) (v : Int32) => zz_go zt_tf zt_fd X 18 zm_2 3 [(2, .int 8), (0, .ref 0), (1, .int v)] [] (zv_f 2 f t9 f9)) = (fun _ f t9 f9 v => some ((3, [(2, .int 0), (0, .ref 0), (1, .int v)], []), (zv_f 3 (upd f 2 (zv_b v 8)) t9 f9))) := by rfl
set_option maxRecDepth 100000 in
theorem zv_ix3 : (fun (X : Nat → Option zz_C) (f : Nat → Int32) (t9 : Int32) (f9 : Nat → Int32) (v : Int32) => zz_go zt_tf zt_fd X 18 zm_2 3 [(2, .int 0), (0, .ref 0), (1, .int v)] [] (zv_f 3 f t9 f9)) = (fun _ f t9 f9 v => some ((3, [(2, .int (-8)), (0, .ref 0), (1, .int v)], []), (zv_f 4 (upd f 3 (zv_b v 0)) t9 f9))) := by rfl
set_option maxRecDepth 100000 in
theorem zv_ix4 : (fun (X : Nat → Option zz_C) (f : Nat → Int32) (t9 : Int32) (f9 : Nat → Int32) (v : Int32) => zz_go zt_tf zt_fd X 18 zm_2 3 [(2, .int 24), (0, .ref 0), (1, .int v)] [] (zv_f 4 f t9 f9)) = (fun _ f t9 f9 v => some ((3, [(2, .int 16), (0, .ref 0), (1, .int v)], []), (zv_f 5 (upd f 4 (zv_b v 24)) t9 f9))) := by rfl
set_option maxRecDepth 100000 in
theorem zv_ix5 : (fun (X : Nat → Option zz_C) (f : Nat → Int32) (t9 : Int32) (f9 : Nat → Int32) (v : Int32) => zz_go zt_tf zt_fd X 18 zm_2 3 [(2, .int 16), (0, .ref 0), (1, .int v)] [] (zv_f 5 f t9 f9)) = (fun _ f t9 f9 v => some ((3, [(2, .int 8), (0, .ref 0), (1, .int v)], []), (zv_f 6 (upd f 5 (zv_b v 16)) t9 f9))) := by rfl
set_option maxRecDepth 100000 in
theorem zv_ix6 : (fun (X : Nat → Option zz_C) (f : Nat → Int32) (t9 : Int32) (f9 : Nat → Int32) (v : Int32) => zz_go zt_tf zt_fd X 18 zm_2 3 [(2, .int 8), (0, .ref 0), (1, .int v)] [] (zv_f 6 f t9 f9)) = (fun _ f t9 f9 v => some ((3, [(2, .int 0), (0, .ref 0), (1, .int v)], []), (zv_f 7 (upd f 6 (zv_b v 8)) t9 f9))) := by rfl
set_option maxRecDepth 100000 in
theorem zv_ix7 : (fun (X : Nat → Option zz_C) (f : Nat → Int32) (t9 : Int32) (f9 : Nat → Int32) (v : Int32) => zz_go zt_tf zt_fd X 18 zm_2 3 [(2, .int 0), (0, .ref 0), (1, .int v)] [] (zv_f 7 f t9 f9)) = (fun _ f t9 f9 v => some ((3, [(2, .int (-8)), (0, .ref 0), (1, .int v)], []), (zv_f 8 (upd f 7 (zv_b v 0)) t9 f9))) := by rfl
set_option maxRecDepth 100000 in
theorem zv_ix8 : (fun (X : Nat → Option zz_C) (f : Nat → Int32) (t9 : Int32) (f9 : Nat → Int32) (v : Int32) => zz_go zt_tf zt_fd X 18 zm_2 3 [(2, .int 24), (0, .ref 0), (1, .int v)] [] (zv_f 8 f t9 f9)) = (fun _ f t9 f9 v => some ((3, [(2, .int 16), (0, .ref 0), (1, .int v)], []), (zv_f 9 (upd f 8 (zv_b v 24)) t9 f9))) := by rfl
set_option maxRecDepth 100000 in
theorem zv_ix9 : (fun (X : Nat → Option zz_C) (f : Nat → Int32) (t9 : Int32) (f9 : Nat → Int32) (v : Int32) => zz_go zt_tf zt_fd X 18 zm_2 3 [(2, .int 16), (0, .ref 0), (1, .int v)] [] (zv_f 9 f t9 f9)) = (fun _ f t9 f9 v => some ((3, [(2, .int 8), (0, .ref 0), (1, .int v)], []), (zv_f 10 (upd f 9 (zv_b v 16)) t9 f9))) := by rfl
set_option maxRecDepth 100000 in
theorem zv_ix10 : (fun (X : Nat → Option zz_C) (f : Nat → Int32) (t9 : Int32) (f9 : Nat → Int32) (v : Int32) => zz_go zt_tf zt_fd X 18 zm_2 3 [(2, .int 8), (0, .ref 0), (1, .int v)] [] (zv_f 10 f t9 f9)) = (fun _ f t9 f9 v => some ((3, [(2, .int 0), (0, .ref 0), (1, .int v)], []), (zv_f 11 (upd f 10 (zv_b v 8)) t9 f9))) := by rfl
set_option maxRecDepth 100000 in
theorem zv_ix11 : (fun (X : Nat → Option zz_C) (f : Nat → Int32) (t9 : Int32) (f9 : Nat → Int32) (v : Int32) => zz_go zt_tf zt_fd X 18 zm_2 3 [(2, .int 0), (0, .ref 0), (1, .int v)] [] (zv_f 11 f t9 f9)) = (fun _ f t9 f9 v => some ((3, [(2, .int (-8)), (0, .ref 0), (1, .int v)], []), (zv_f 12 (upd f 11 (zv_b v 0)) t9 f9))) := by rfl
set_option maxRecDepth 100000 in
theorem zv_ix12 : (fun (X : Nat → Option zz_C) (f : Nat → Int32) (t9 : Int32) (f9 : Nat → Int32) (v : Int32) => zz_go zt_tf zt_fd X 18 zm_2 3 [(2, .int 24), (0, .ref 0), (1, .int v)] [] (zv_f 12 f t9 f9)) = (fun _ f t9 f9 v => some ((3, [(2, .int 16), (0, .ref 0), (1, .int v)], []), (zv_f 13 (upd f 12 (zv_b v 24)) t9 f9))) := by rfl
set_option maxRecDepth 100000 in
theorem zv_ix13 : (fun (X : Nat → Option zz_C) (f : Nat → Int32) (t9 : Int32) (f9 : Nat → Int32) (v : Int32) => zz_go zt_tf zt_fd X 18 zm_2 3 [(2, .int 16), (0, .ref 0), (1, .int v)] [] (zv_f 13 f t9 f9)) = (fun _ f t9 f9 v => some ((3, [(2, .int 8), (0, .ref 0), (1, .int v)], []), (zv_f 14 (upd f 13 (zv_b v 16)) t9 f9))) := by rfl
set_option maxRecDepth 100000 in
theorem zv_ix14 : (fun (X : Nat → Option zz_C) (f : Nat → Int32) (t9 : Int32) (f9 : Nat → Int32) (v : Int32) => zz_go zt_tf zt_fd X 18 zm_2 3 [(2, .int 8), (0, .ref 0), (1, .int v)] [] (zv_f 14 f t9 f9)) = (fun _ f t9 f9 v => some ((3, [(2, .int 0), (0, .ref 0), (1, .int v)], []), (zv_f 15 (upd f 14 (zv_b v 8)) t9 f9))) := by rfl
set_option maxRecDepth 100000 in
theorem zv_ix15 : (fun (X : Nat → Option zz_C) (f : Nat → Int32) (t9 : Int32) (f9 : Nat → Int32) (v : Int32) => zz_go zt_tf zt_fd X 18 zm_2 3 [(2, .int 0), (0, .ref 0), (1, .int v)] [] (zv_f 15 f t9 f9)) = (fun _ f t9 f9 v => some ((3, [(2, .int (-8)), (0, .ref 0), (1, .int v)], []), (zv_f 16 (upd f 15 (zv_b v 0)) t9 f9))) := by rfl
set_option maxRecDepth 100000 in
theorem zv_ix16 : (fun (X : Nat → Option zz_C) (f : Nat → Int32) (t9 : Int32) (f9 : Nat → Int32) (v : Int32) => zz_go zt_tf zt_fd X 18 zm_2 3 [(2, .int 24), (0, .ref 0), (1, .int v)] [] (zv_f 16 f t9 f9)) = (fun _ f t9 f9 v => some ((3, [(2, .int 16), (0, .ref 0), (1, .int v)], []), (zv_f 17 (upd f 16 (zv_b v 24)) t9 f9))) := by rfl
set_option maxRecDepth 100000 in
theorem zv_ix17 : (fun (X : Nat → Option zz_C) (f : Nat → Int32) (t9 : Int32) (f9 : Nat → Int32) (v : Int32) => zz_go zt_tf zt_fd X 18 zm_2 3 [(2, .int 16), (0, .ref 0), (1, .int v)] [] (zv_f 17 f t9 f9)) = (fun _ f t9 f9 v => some ((3, [(2, .int 8), (0, .ref 0), (1, .int v)], []), (zv_f 18 (upd f 17 (zv_b v 16)) t9 f9))) := by rfl
set_option maxRecDepth 100000 in
theorem zv_ix18 : (fun (X : Nat → Option zz_C) (f : Nat → Int32) (t9 : Int32) (f9 : Nat → Int32) (v : Int32) => zz_go zt_tf zt_fd X 18 zm_2 3 [(2, .int 8), (0, .ref 0), (1, .int v)] [] (zv_f 18 f t9 f9)) = (fun _ f t9 f9 v => some ((3, [(2, .int 0), (0, .ref 0), (1, .int v)], []), (zv_f 19 (upd f 18 (zv_b v 8)) t9 f9))) := by rfl
set_option maxRecDepth 100000 in
theorem zv_ix19 : (fun (X : Nat → Option zz_C) (f : Nat → Int32) (t9 : Int32) (f9 : Nat → Int32) (v : Int32) => zz_go zt_tf zt_fd X 18 zm_2 3 [(2, .int 0), (0, .ref 0), (1, .int v)] [] (zv_f 19 f t9 f9)) = (fun _ f t9 f9 v => some ((3, [(2, .int (-8)), (0, .ref 0), (1, .int v)], []), (zv_f 20 (upd f 19 (zv_b v 0)) t9 f9))) := by rfl
set_option maxRecDepth 100000 in
set_option maxHeartbeats 4000000 in
theorem zv_tx0 {X : Nat → Option zz_C} {f : Nat → Int32} {t9 : Int32} {f9 : Nat → Int32} {v : Int32} {d : Nat} {Q : Option Value → zz_H → Prop} (k : Q none (zv_f 4 (upd (upd (upd (upd f 0 (zv_b v 24)) 1 (zv_b v 16)) 2 (zv_b v 8)) 3 (zv_b v 0)) t9 f9)) : zz_E zp_P zt_tf zt_fd X d zm_2 0 [(0, .ref 0), (1, .int v)] [] (zv_f 0 f t9 f9) Q := by
  refine zz_E.i rfl rfl rfl ?_
  refine zz_E.i rfl rfl rfl ?_
  refine zz_E.go 18 (congrFun (congrFun (congrFun (congrFun (congrFun zv_ix0 X) _) _) _) v) ?_
  refine zz_E.go 18 (congrFun (congrFun (congrFun (congrFun (congrFun zv_ix1 X) _) _) _) v) ?_
  refine zz_E.go 18 (congrFun (congrFun (congrFun (congrFun (congrFun zv_ix2 X) _) _) _) v) ?_
  refine zz_E.go 18 (congrFun (congrFun (congrFun (congrFun (congrFun zv_ix3 X) _) _) _) v) ?_
  refine zz_E.i rfl rfl rfl ?_
  refine zz_E.i rfl rfl rfl ?_
  refine zz_E.ret rfl rfl rfl ?_
  exact k
set_option maxRecDepth 100000 in
set_option maxHeartbeats 4000000 in
theorem zv_tx1 {X : Nat → Option zz_C} {f : Nat → Int32} {t9 : Int32} {f9 : Nat → Int32} {v : Int32} {d : Nat} {Q : Option Value → zz_H → Prop} (k : Q none (zv_f 8 (upd (upd (upd (upd f 4 (zv_b v 24)) 5 (zv_b v 16)) 6 (zv_b v 8)) 7 (zv_b v 0)) t9 f9)) : zz_E zp_P zt_tf zt_fd X d zm_2 0 [(0, .ref 0), (1, .int v)] [] (zv_f 4 f t9 f9) Q := by
  refine zz_E.i rfl rfl rfl ?_
  refine zz_E.i rfl rfl rfl ?_
  refine zz_E.go 18 (congrFun (congrFun (congrFun (congrFun (congrFun zv_ix4 X) _) _) _) v) ?_
  refine zz_E.go 18 (congrFun (congrFun (congrFun (congrFun (congrFun zv_ix5 X) _) _) _) v) ?_
  refine zz_E.go 18 (congrFun (congrFun (congrFun (congrFun (congrFun zv_ix6 X) _) _) _) v) ?_
  refine zz_E.go 18 (congrFun (congrFun (congrFun (congrFun (congrFun zv_ix7 X) _) _) _) v) ?_
  refine zz_E.i rfl rfl rfl ?_
  refine zz_E.i rfl rfl rfl ?_
  refine zz_E.ret rfl rfl rfl ?_
  exact k
set_option maxRecDepth 100000 in
set_option maxHeartbeats 4000000 in
theorem zv_tx2 {X : Nat → Option zz_C} {f : Nat → Int32} {t9 : Int32} {f9 : Nat → Int32} {v : Int32} {d : Nat} {Q : Option Value → zz_H → Prop} (k : Q none (zv_f 12 (upd (upd (upd (upd f 8 (zv_b v 24)) 9 (zv_b v 16)) 10 (zv_b v 8)) 11 (zv_b v 0)) t9 f9)) : zz_E zp_P zt_tf zt_fd X d zm_2 0 [(0, .ref 0), (1, .int v)] [] (zv_f 8 f t9 f9) Q := by
  refine zz_E.i rfl rfl rfl ?_
  refine zz_E.i rfl rfl rfl ?_
  refine zz_E.go 18 (congrFun (congrFun (congrFun (congrFun (congrFun zv_ix8 X) _) _) _) v) ?_
  refine zz_E.go 18 (congrFun (congrFun (congrFun (congrFun (congrFun zv_ix9 X) _) _) _) v) ?_
  refine zz_E.go 18 (congrFun (congrFun (congrFun (congrFun (congrFun zv_ix10 X) _) _) _) v) ?_
  refine zz_E.go 18 (congrFun (congrFun (congrFun (congrFun (congrFun zv_ix11 X) _) _) _) v) ?_
  refine zz_E.i rfl rfl rfl ?_
  refine zz_E.i rfl rfl rfl ?_
  refine zz_E.ret rfl rfl rfl ?_
  exact k
set_option maxRecDepth 100000 in
set_option maxHeartbeats 4000000 in
theorem zv_tx3 {X : Nat → Option zz_C} {f : Nat → Int32} {t9 : Int32} {f9 : Nat → Int32} {v : Int32} {d : Nat} {Q : Option Value → zz_H → Prop} (k : Q none (zv_f 16 (upd (upd (upd (upd f 12 (zv_b v 24)) 13 (zv_b v 16)) 14 (zv_b v 8)) 15 (zv_b v 0)) t9 f9)) : zz_E zp_P zt_tf zt_fd X d zm_2 0 [(0, .ref 0), (1, .int v)] [] (zv_f 12 f t9 f9) Q := by
  refine zz_E.i rfl rfl rfl ?_
  refine zz_E.i rfl rfl rfl ?_
  refine zz_E.go 18 (congrFun (congrFun (congrFun (congrFun (congrFun zv_ix12 X) _) _) _) v) ?_
  refine zz_E.go 18 (congrFun (congrFun (congrFun (congrFun (congrFun zv_ix13 X) _) _) _) v) ?_
  refine zz_E.go 18 (congrFun (congrFun (congrFun (congrFun (congrFun zv_ix14 X) _) _) _) v) ?_
  refine zz_E.go 18 (congrFun (congrFun (congrFun (congrFun (congrFun zv_ix15 X) _) _) _) v) ?_
  refine zz_E.i rfl rfl rfl ?_
  refine zz_E.i rfl rfl rfl ?_
  refine zz_E.ret rfl rfl rfl ?_
  exact k
set_option maxRecDepth 100000 in
set_option maxHeartbeats 4000000 in
theorem zv_tx4 {X : Nat → Option zz_C} {f : Nat → Int32} {t9 : Int32} {f9 : Nat → Int32} {v : Int32} {d : Nat} {Q : Option Value → zz_H → Prop} (k : Q none (zv_f 20 (upd (upd (upd (upd f 16 (zv_b v 24)) 17 (zv_b v 16)) 18 (zv_b v 8)) 19 (zv_b v 0)) t9 f9)) : zz_E zp_P zt_tf zt_fd X d zm_2 0 [(0, .ref 0), (1, .int v)] [] (zv_f 16 f t9 f9) Q := by
  refine zz_E.i rfl rfl rfl ?_
  refine zz_E.i rfl rfl rfl ?_
  refine zz_E.go 18 (congrFun (congrFun (congrFun (congrFun (congrFun zv_ix16 X) _) _) _) v) ?_
  refine zz_E.go 18 (congrFun (congrFun (congrFun (congrFun (congrFun zv_ix17 X) _) _) _) v) ?_
  refine zz_E.go 18 (congrFun (congrFun (congrFun (congrFun (congrFun zv_ix18 X) _) _) _) v) ?_
  refine zz_E.go 18 (congrFun (congrFun (congrFun (congrFun (congrFun zv_ix19 X) _) _) _) v) ?_
  refine zz_E.i rfl rfl rfl ?_
  refine zz_E.i rfl rfl rfl ?_
  refine zz_E.ret rfl rfl rfl ?_
  exact k
set_option maxRecDepth 100000 in
theorem zv_im0 : (fun (X : Nat → Option zz_C) (f : Nat → Int32) (t9 : Int32) (f9 : Nat → Int32) (v : Int32) => zz_go zt_tf zt_fd X 18 zm_58 3 [(2, .int 24), (0, .ref 61), (1, .int v)] [] (zv_f t9 f9 0 f)) = (fun _ f t9 f9 v => some ((3, [(2, .int 16), (0, .ref 61), (1, .int v)], []), (zv_f t9 f9 1 (upd f 0 (zv_b v 24))))) := by rfl
set_option maxRecDepth 100000 in
theorem zv_im1 : (fun (X : Nat → Option zz_C) (f : Nat → Int32) (t9 : Int32) (f9 : Nat → Int32) (v : Int32) => zz_go zt_tf zt_fd X 18 zm_58 3 [(2, .int 16), (0, .ref 61), (1, .int v)] [] (zv_f t9 f9 1 f)) = (fun _ f t9 f9 v => some ((3, [(2, .int 8), (0, .ref 61), (1, .int v)], []), (zv_f t9 f9 2 (upd f 1 (zv_b v 16))))) := by rfl
set_option maxRecDepth 100000 in
theorem zv_im2 : (fun (X : Nat → Option zz_C) (f : Nat → Int32) (t9 : Int32) (f9 : Nat → Int32) (v : Int32) => zz_go zt_tf zt_fd X 18 zm_58 3 [(2, .int 8), (0, .ref 61), (1, .int v)] [] (zv_f t9 f9 2 f)) = (fun _ f t9 f9 v => some ((3, [(2, .int 0), (0, .ref 61), (1, .int v)], []), (zv_f t9 f9 3 (upd f 2 (zv_b v 8))))) := by rfl
set_option maxRecDepth 100000 in
theorem zv_im3 : (fun (X : Nat → Option zz_C) (f : Nat → Int32) (t9 : Int32) (f9 : Nat → Int32) (v : Int32) => zz_go zt_tf zt_fd X 18 zm_58 3 [(2, .int 0), (0, .ref 61), (1, .int v)] [] (zv_f t9 f9 3 f)) = (fun _ f t9 f9 v => some ((3, [(2, .int (-8)), (0, .ref 61), (1, .int v)], []), (zv_f t9 f9 4 (upd f 3 (zv_b v 0))))) := by rfl
set_option maxRecDepth 100000 in
theorem zv_im4 : (fun (X : Nat → Option zz_C) (f : Nat → Int32) (t9 : Int32) (f9 : Nat → Int32) (v : Int32) => zz_go zt_tf zt_fd X 18 zm_58 3 [(2, .int 24), (0, .ref 61), (1, .int v)] [] (zv_f t9 f9 4 f)) = (fun _ f t9 f9 v => some ((3, [(2, .int 16), (0, .ref 61), (1, .int v)], []), (zv_f t9 f9 5 (upd f 4 (zv_b v 24))))) := by rfl
set_option maxRecDepth 100000 in
theorem zv_im5 : (fun (X : Nat → Option zz_C) (f : Nat → Int32) (t9 : Int32) (f9 : Nat → Int32) (v : Int32) => zz_go zt_tf zt_fd X 18 zm_58 3 [(2, .int 16), (0, .ref 61), (1, .int v)] [] (zv_f t9 f9 5 f)) = (fun _ f t9 f9 v => some ((3, [(2, .int 8), (0, .ref 61), (1, .int v)], []), (zv_f t9 f9 6 (upd f 5 (zv_b v 16))))) := by rfl
set_option maxRecDepth 100000 in
theorem zv_im6 : (fun (X : Nat → Option zz_C) (f : Nat → Int32) (t9 : Int32) (f9 : Nat → Int32) (v : Int32) => zz_go zt_tf zt_fd X 18 zm_58 3 [(2, .int 8), (0, .ref 61), (1, .int v)] [] (zv_f t9 f9 6 f)) = (fun _ f t9 f9 v => some ((3, [(2, .int 0), (0, .ref 61), (1, .int v)], []), (zv_f t9 f9 7 (upd f 6 (zv_b v 8))))) := by rfl
set_option maxRecDepth 100000 in
theorem zv_im7 : (fun (X : Nat → Option zz_C) (f : Nat → Int32) (t9 : Int32) (f9 : Nat → Int32) (v : Int32) => zz_go zt_tf zt_fd X 18 zm_58 3 [(2, .int 0), (0, .ref 61), (1, .int v)] [] (zv_f t9 f9 7 f)) = (fun _ f t9 f9 v => some ((3, [(2, .int (-8)), (0, .ref 61), (1, .int v)], []), (zv_f t9 f9 8 (upd f 7 (zv_b v 0))))) := by rfl
set_option maxRecDepth 100000 in
theorem zv_im8 : (fun (X : Nat → Option zz_C) (f : Nat → Int32) (t9 : Int32) (f9 : Nat → Int32) (v : Int32) => zz_go zt_tf zt_fd X 18 zm_58 3 [(2, .int 24), (0, .ref 61), (1, .int v)] [] (zv_f t9 f9 8 f)) = (fun _ f t9 f9 v => some ((3, [(2, .int 16), (0, .ref 61), (1, .int v)], []), (zv_f t9 f9 9 (upd f 8 (zv_b v 24))))) := by rfl
set_option maxRecDepth 100000 in
theorem zv_im9 : (fun (X : Nat → Option zz_C) (f : Nat → Int32) (t9 : Int32) (f9 : Nat → Int32) (v : Int32) => zz_go zt_tf zt_fd X 18 zm_58 3 [(2, .int 16), (0, .ref 61), (1, .int v)] [] (zv_f t9 f9 9 f)) = (fun _ f t9 f9 v => some ((3, [(2, .int 8), (0, .ref 61), (1, .int v)], []), (zv_f t9 f9 10 (upd f 9 (zv_b v 16))))) := by rfl
set_option maxRecDepth 100000 in
theorem zv_im10 : (fun (X : Nat → Option zz_C) (f : Nat → Int32) (t9 : Int32) (f9 : Nat → Int32) (v : Int32) => zz_go zt_tf zt_fd X 18 zm_58 3 [(2, .int 8), (0, .ref 61), (1, .int v)] [] (zv_f t9 f9 10 f)) = (fun _ f t9 f9 v => some ((3, [(2, .int 0), (0, .ref 61), (1, .int v)], []), (zv_f t9 f9 11 (upd f 10 (zv_b v 8))))) := by rfl
set_option maxRecDepth 100000 in
theorem zv_im11 : (fun (X : Nat → Option zz_C) (f : Nat → Int32) (t9 : Int32) (f9 : Nat → Int32) (v : Int32) => zz_go zt_tf zt_fd X 18 zm_58 3 [(2, .int 0), (0, .ref 61), (1, .int v)] [] (zv_f t9 f9 11 f)) = (fun _ f t9 f9 v => some ((3, [(2, .int (-8)), (0, .ref 61), (1, .int v)], []), (zv_f t9 f9 12 (upd f 11 (zv_b v 0))))) := by rfl
set_option maxRecDepth 100000 in
theorem zv_im12 : (fun (X : Nat → Option zz_C) (f : Nat → Int32) (t9 : Int32) (f9 : Nat → Int32) (v : Int32) => zz_go zt_tf zt_fd X 18 zm_58 3 [(2, .int 24), (0, .ref 61), (1, .int v)] [] (zv_f t9 f9 12 f)) = (fun _ f t9 f9 v => some ((3, [(2, .int 16), (0, .ref 61), (1, .int v)], []), (zv_f t9 f9 13 (upd f 12 (zv_b v 24))))) := by rfl
set_option maxRecDepth 100000 in
theorem zv_im13 : (fun (X : Nat → Option zz_C) (f : Nat → Int32) (t9 : Int32) (f9 : Nat → Int32) (v : Int32) => zz_go zt_tf zt_fd X 18 zm_58 3 [(2, .int 16), (0, .ref 61), (1, .int v)] [] (zv_f t9 f9 13 f)) = (fun _ f t9 f9 v => some ((3, [(2, .int 8), (0, .ref 61), (1, .int v)], []), (zv_f t9 f9 14 (upd f 13 (zv_b v 16))))) := by rfl
set_option maxRecDepth 100000 in
theorem zv_im14 : (fun (X : Nat → Option zz_C) (f : Nat → Int32) (t9 : Int32) (f9 : Nat → Int32) (v : Int32) => zz_go zt_tf zt_fd X 18 zm_58 3 [(2, .int 8), (0, .ref 61), (1, .int v)] [] (zv_f t9 f9 14 f)) = (fun _ f t9 f9 v => some ((3, [(2, .int 0), (0, .ref 61), (1, .int v)], []), (zv_f t9 f9 15 (upd f 14 (zv_b v 8))))) := by rfl
set_option maxRecDepth 100000 in
theorem zv_im15 : (fun (X : Nat → Option zz_C) (f : Nat → Int32) (t9 : Int32) (f9 : Nat → Int32) (v : Int32) => zz_go zt_tf zt_fd X 18 zm_58 3 [(2, .int 0), (0, .ref 61), (1, .int v)] [] (zv_f t9 f9 15 f)) = (fun _ f t9 f9 v => some ((3, [(2, .int (-8)), (0, .ref 61), (1, .int v)], []), (zv_f t9 f9 16 (upd f 15 (zv_b v 0))))) := by rfl
set_option maxRecDepth 100000 in
theorem zv_im16 : (fun (X : Nat → Option zz_C) (f : Nat → Int32) (t9 : Int32) (f9 : Nat → Int32) (v : Int32) => zz_go zt_tf zt_fd X 18 zm_58 3 [(2, .int 24), (0, .ref 61), (1, .int v)] [] (zv_f t9 f9 16 f)) = (fun _ f t9 f9 v => some ((3, [(2, .int 16), (0, .ref 61), (1, .int v)], []), (zv_f t9 f9 17 (upd f 16 (zv_b v 24))))) := by rfl
set_option maxRecDepth 100000 in
theorem zv_im17 : (fun (X : Nat → Option zz_C) (f : Nat → Int32) (t9 : Int32) (f9 : Nat → Int32) (v : Int32) => zz_go zt_tf zt_fd X 18 zm_58 3 [(2, .int 16), (0, .ref 61), (1, .int v)] [] (zv_f t9 f9 17 f)) = (fun _ f t9 f9 v => some ((3, [(2, .int 8), (0, .ref 61), (1, .int v)], []), (zv_f t9 f9 18 (upd f 17 (zv_b v 16))))) := by rfl
set_option maxRecDepth 100000 in
theorem zv_im18 : (fun (X : Nat → Option zz_C) (f : Nat → Int32) (t9 : Int32) (f9 : Nat → Int32) (v : Int32) => zz_go zt_tf zt_fd X 18 zm_58 3 [(2, .int 8), (0, .ref 61), (1, .int v)] [] (zv_f t9 f9 18 f)) = (fun _ f t9 f9 v => some ((3, [(2, .int 0), (0, .ref 61), (1, .int v)], []), (zv_f t9 f9 19 (upd f 18 (zv_b v 8))))) := by rfl
set_option maxRecDepth 100000 in
theorem zv_im19 : (fun (X : Nat → Option zz_C) (f : Nat → Int32) (t9 : Int32) (f9 : Nat → Int32) (v : Int32) => zz_go zt_tf zt_fd X 18 zm_58 3 [(2, .int 0), (0, .ref 61), (1, .int v)] [] (zv_f t9 f9 19 f)) = (fun _ f t9 f9 v => some ((3, [(2, .int (-8)), (0, .ref 61), (1, .int v)], []), (zv_f t9 f9 20 (upd f 19 (zv_b v 0))))) := by rfl
set_option maxRecDepth 100000 in
set_option maxHeartbeats 4000000 in
theorem zv_tm0 {X : Nat → Option zz_C} {f : Nat → Int32} {t9 : Int32} {f9 : Nat → Int32} {v : Int32} {d : Nat} {Q : Option Value → zz_H → Prop} (k : Q none (zv_f t9 f9 4 (upd (upd (upd (upd f 0 (zv_b v 24)) 1 (zv_b v 16)) 2 (zv_b v 8)) 3 (zv_b v 0)))) : zz_E zp_P zt_tf zt_fd X d zm_58 0 [(0, .ref 61), (1, .int v)] [] (zv_f t9 f9 0 f) Q := by
  refine zz_E.i rfl rfl rfl ?_
  refine zz_E.i rfl rfl rfl ?_
  refine zz_E.go 18 (congrFun (congrFun (congrFun (congrFun (congrFun zv_im0 X) _) _) _) v) ?_
  refine zz_E.go 18 (congrFun (congrFun (congrFun (congrFun (congrFun zv_im1 X) _) _) _) v) ?_
  refine zz_E.go 18 (congrFun (congrFun (congrFun (congrFun (congrFun zv_im2 X) _) _) _) v) ?_
  refine zz_E.go 18 (congrFun (congrFun (congrFun (congrFun (congrFun zv_im3 X) _) _) _) v) ?_
  refine zz_E.i rfl rfl rfl ?_
  refine zz_E.i rfl rfl rfl ?_
  refine zz_E.ret rfl rfl rfl ?_
  exact k
set_option maxRecDepth 100000 in
set_option maxHeartbeats 4000000 in
theorem zv_tm1 {X : Nat → Option zz_C} {f : Nat → Int32} {t9 : Int32} {f9 : Nat → Int32} {v : Int32} {d : Nat} {Q : Option Value → zz_H → Prop} (k : Q none (zv_f t9 f9 8 (upd (upd (upd (upd f 4 (zv_b v 24)) 5 (zv_b v 16)) 6 (zv_b v 8)) 7 (zv_b v 0)))) : zz_E zp_P zt_tf zt_fd X d zm_58 0 [(0, .ref 61), (1, .int v)] [] (zv_f t9 f9 4 f) Q := by
  refine zz_E.i rfl rfl rfl ?_
  refine zz_E.i rfl rfl rfl ?_
  refine zz_E.go 18 (congrFun (congrFun (congrFun (congrFun (congrFun zv_im4 X) _) _) _) v) ?_
  refine zz_E.go 18 (congrFun (congrFun (congrFun (congrFun (congrFun zv_im5 X) _) _) _) v) ?_
  refine zz_E.go 18 (congrFun (congrFun (congrFun (congrFun (congrFun zv_im6 X) _) _) _) v) ?_
  refine zz_E.go 18 (congrFun (congrFun (congrFun (congrFun (congrFun zv_im7 X) _) _) _) v) ?_
  refine zz_E.i rfl rfl rfl ?_
  refine zz_E.i rfl rfl rfl ?_
  refine zz_E.ret rfl rfl rfl ?_
  exact k
set_option maxRecDepth 100000 in
set_option maxHeartbeats 4000000 in
theorem zv_tm2 {X : Nat → Option zz_C} {f : Nat → Int32} {t9 : Int32} {f9 : Nat → Int32} {v : Int32} {d : Nat} {Q : Option Value → zz_H → Prop} (k : Q none (zv_f t9 f9 12 (upd (upd (upd (upd f 8 (zv_b v 24)) 9 (zv_b v 16)) 10 (zv_b v 8)) 11 (zv_b v 0)))) : zz_E zp_P zt_tf zt_fd X d zm_58 0 [(0, .ref 61), (1, .int v)] [] (zv_f t9 f9 8 f) Q := by
  refine zz_E.i rfl rfl rfl ?_
  refine zz_E.i rfl rfl rfl ?_
  refine zz_E.go 18 (congrFun (congrFun (congrFun (congrFun (congrFun zv_im8 X) _) _) _) v) ?_
  refine zz_E.go 18 (congrFun (congrFun (congrFun (congrFun (congrFun zv_im9 X) _) _) _) v) ?_
  refine zz_E.go 18 (congrFun (congrFun (congrFun (congrFun (congrFun zv_im10 X) _) _) _) v) ?_
  refine zz_E.go 18 (congrFun (congrFun (congrFun (congrFun (congrFun zv_im11 X) _) _) _) v) ?_
  refine zz_E.i rfl rfl rfl ?_
  refine zz_E.i rfl rfl rfl ?_
  refine zz_E.ret rfl rfl rfl ?_
  exact k
set_option maxRecDepth 100000 in
set_option maxHeartbeats 4000000 in
theorem zv_tm3 {X : Nat → Option zz_C} {f : Nat → Int32} {t9 : Int32} {f9 : Nat → Int32} {v : Int32} {d : Nat} {Q : Option Value → zz_H → Prop} (k : Q none (zv_f t9 f9 16 (upd (upd (upd (upd f 12 (zv_b v 24)) 13 (zv_b v 16)) 14 (zv_b v 8)) 15 (zv_b v 0)))) : zz_E zp_P zt_tf zt_fd X d zm_58 0 [(0, .ref 61), (1, .int v)] [] (zv_f t9 f9 12 f) Q := by
  refine zz_E.i rfl rfl rfl ?_
  refine zz_E.i rfl rfl rfl ?_
  refine zz_E.go 18 (congrFun (congrFun (congrFun (congrFun (congrFun zv_im12 X) _) _) _) v) ?_
  refine zz_E.go 18 (congrFun (congrFun (congrFun (congrFun (congrFun zv_im13 X) _) _) _) v) ?_
  refine zz_E.go 18 (congrFun (congrFun (congrFun (congrFun (congrFun zv_im14 X) _) _) _) v) ?_
  refine zz_E.go 18 (congrFun (congrFun (congrFun (congrFun (congrFun zv_im15 X) _) _) _) v) ?_
  refine zz_E.i rfl rfl rfl ?_
  refine zz_E.i rfl rfl rfl ?_
  refine zz_E.ret rfl rfl rfl ?_
  exact k
set_option maxRecDepth 100000 in
set_option maxHeartbeats 4000000 in
theorem zv_tm4 {X : Nat → Option zz_C} {f : Nat → Int32} {t9 : Int32} {f9 : Nat → Int32} {v : Int32} {d : Nat} {Q : Option Value → zz_H → Prop} (k : Q none (zv_f t9 f9 20 (upd (upd (upd (upd f 16 (zv_b v 24)) 17 (zv_b v 16)) 18 (zv_b v 8)) 19 (zv_b v 0)))) : zz_E zp_P zt_tf zt_fd X d zm_58 0 [(0, .ref 61), (1, .int v)] [] (zv_f t9 f9 16 f) Q := by
  refine zz_E.i rfl rfl rfl ?_
  refine zz_E.i rfl rfl rfl ?_
  refine zz_E.go 18 (congrFun (congrFun (congrFun (congrFun (congrFun zv_im16 X) _) _) _) v) ?_
  refine zz_E.go 18 (congrFun (congrFun (congrFun (congrFun (congrFun zv_im17 X) _) _) _) v) ?_
  refine zz_E.go 18 (congrFun (congrFun (congrFun (congrFun (congrFun zv_im18 X) _) _) _) v) ?_
  refine zz_E.go 18 (congrFun (congrFun (congrFun (congrFun (congrFun zv_im19 X) _) _) _) v) ?_
  refine zz_E.i rfl rfl rfl ?_
  refine zz_E.i rfl rfl rfl ?_
  refine zz_E.ret rfl rfl rfl ?_
  exact k
set_option maxRecDepth 100000 in
set_option maxHeartbeats 8000000 in
theorem zv_s0 (xs : Nat → Int32) : zz_E zp_P zt_tf zt_fd (zt_X 6 xs) 1000 zm_law 33 zv_L [.int (nI 0)] zv_h zv_Q := by
  show zz_E zp_P zt_tf zt_fd (zt_X 6 xs) 1000 zm_law 33 zv_L [.int (nI 0)] zv_m27 zv_Q
  rw [zv_f0]
  repeat (refine zz_E.i rfl rfl rfl ?_)
  refine zz_E.call (M' := zm_1) rfl rfl (by decide) rfl rfl ⟨rfl, Nat.le_of_ble_eq_true rfl⟩ ?_
  repeat (refine zz_E.i rfl rfl rfl ?_)
  refine zz_E.call (M' := zm_2) rfl rfl (by decide) rfl rfl ⟨rfl, Nat.le_of_ble_eq_true rfl⟩ ?_
  refine zv_tx0 ?_
  repeat (refine zz_E.i rfl rfl rfl ?_)
  refine zz_E.call (M' := zm_2) rfl rfl (by decide) rfl rfl ⟨rfl, Nat.le_of_ble_eq_true rfl⟩ ?_
  refine zv_tx1 ?_
  repeat (refine zz_E.i rfl rfl rfl ?_)
  refine zz_E.call (M' := zm_2) rfl rfl (by decide) rfl rfl ⟨rfl, Nat.le_of_ble_eq_true rfl⟩ ?_
  refine zv_tx2 ?_
  repeat (refine zz_E.i rfl rfl rfl ?_)
  refine zz_E.call (M' := zm_2) rfl rfl (by decide) rfl rfl ⟨rfl, Nat.le_of_ble_eq_true rfl⟩ ?_
  refine zv_tx3 ?_
  repeat (refine zz_E.i rfl rfl rfl ?_)
  refine zz_E.call (M' := zm_2) rfl rfl (by decide) rfl rfl ⟨rfl, Nat.le_of_ble_eq_true rfl⟩ ?_
  refine zv_tx4 ?_
  repeat (refine zz_E.i rfl rfl rfl ?_)
  refine zz_E.ret rfl rfl rfl ?_
  repeat (refine zz_E.i rfl rfl rfl ?_)
  refine zz_E.call (M' := zm_57) rfl rfl (by decide) rfl rfl ⟨rfl, Nat.le_of_ble_eq_true rfl⟩ ?_
  repeat (refine zz_E.i rfl rfl rfl ?_)
  refine zz_E.call (M' := zm_58) rfl rfl (by decide) rfl rfl ⟨rfl, Nat.le_of_ble_eq_true rfl⟩ ?_
  refine zv_tm0 ?_
  repeat (refine zz_E.i rfl rfl rfl ?_)
  refine zz_E.call (M' := zm_58) rfl rfl (by decide) rfl rfl ⟨rfl, Nat.le_of_ble_eq_true rfl⟩ ?_
  refine zv_tm1 ?_
  repeat (refine zz_E.i rfl rfl rfl ?_)
  refine zz_E.call (M' := zm_58) rfl rfl (by decide) rfl rfl ⟨rfl, Nat.le_of_ble_eq_true rfl⟩ ?_
  refine zv_tm2 ?_
  repeat (refine zz_E.i rfl rfl rfl ?_)
  refine zz_E.call (M' := zm_58) rfl rfl (by decide) rfl rfl ⟨rfl, Nat.le_of_ble_eq_true rfl⟩ ?_
  refine zv_tm3 ?_
  repeat (refine zz_E.i rfl rfl rfl ?_)
  refine zz_E.call (M' := zm_58) rfl rfl (by decide) rfl rfl ⟨rfl, Nat.le_of_ble_eq_true rfl⟩ ?_
  refine zv_tm4 ?_
  repeat (refine zz_E.i rfl rfl rfl ?_)
  refine zz_E.ret rfl rfl rfl ?_
  repeat (refine zz_E.i rfl rfl rfl ?_)
  refine zz_E.ret rfl rfl rfl ?_
  exact ⟨rfl, Nat.le_of_ble_eq_true rfl, Nat.le_of_ble_eq_true rfl⟩
