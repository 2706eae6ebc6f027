/-! suits (IIII)Z -/
theorem mb_327_0 {X : Nat → Option zz_C} {h : zz_H} (hh : 111 ≤ h.length) {s : mS} {d : Nat} {Q : Option Value → zz_H → Prop} {x0 : Int32} {x1 : Int32} {x2 : Int32} {x3 : Int32} (k1 : x0 = 5 → zz_E zp_P zt_tf zt_fd X d zm_327 17 [] [] (mH h s) Q) (k2 : ¬ x0 = 5 → zz_E zp_P zt_tf zt_fd X d zm_327 5 [(0, .int x0), (1, .int x1), (2, .int x2), (3, .int x3)] [] (mH h s) Q) : zz_E zp_P zt_tf zt_fd X d zm_327 0 [(0, .int x0), (1, .int x1), (2, .int x2), (3, .int x3)] [] (mH h s) Q := by
  refine zz_E.n 1 rfl rfl rfl ?_
  refine zz_E.c 2 (.int 5) rfl rfl rfl rfl ?_
  refine zz_E.b2 17 5 (A := x0 = 5) rfl rfl (by decide) rfl rfl (fun c => ?_) (fun c => ?_)
  · exact zz_E.weak (k1 c) rfl trivial
  · exact zz_E.weak (k2 c) rfl ⟨rfl, rfl, rfl, rfl, trivial⟩
theorem mb_327_5 {X : Nat → Option zz_C} {h : zz_H} (hh : 111 ≤ h.length) {s : mS} {d : Nat} {Q : Option Value → zz_H → Prop} {x0 : Int32} {x1 : Int32} {x2 : Int32} {x3 : Int32} (k1 : x0 = 8 → zz_E zp_P zt_tf zt_fd X d zm_327 17 [] [] (mH h s) Q) (k2 : ¬ x0 = 8 → zz_E zp_P zt_tf zt_fd X d zm_327 11 [(0, .int x0), (1, .int x1), (2, .int x2), (3, .int x3)] [] (mH h s) Q) : zz_E zp_P zt_tf zt_fd X d zm_327 5 [(0, .int x0), (1, .int x1), (2, .int x2), (3, .int x3)] [] (mH h s) Q := by
  refine zz_E.n 6 rfl rfl rfl ?_
  refine zz_E.c 8 (.int 8) rfl rfl rfl rfl ?_
  refine zz_E.b2 17 11 (A := x0 = 8) rfl rfl (by decide) rfl rfl (fun c => ?_) (fun c => ?_)
  · exact zz_E.weak (k1 c) rfl trivial
  · exact zz_E.weak (k2 c) rfl ⟨rfl, rfl, rfl, rfl, trivial⟩
theorem mb_327_11 {X : Nat → Option zz_C} {h : zz_H} (hh : 111 ≤ h.length) {s : mS} {d : Nat} {Q : Option Value → zz_H → Prop} {x0 : Int32} {x1 : Int32} {x2 : Int32} {x3 : Int32} (k1 : ¬ x0 = 27 → zz_E zp_P zt_tf zt_fd X d zm_327 19 [(0, .int x0), (1, .int x1), (2, .int x2), (3, .int x3)] [] (mH h s) Q) (k2 : ¬ ¬ x0 = 27 → zz_E zp_P zt_tf zt_fd X d zm_327 17 [] [] (mH h s) Q) : zz_E zp_P zt_tf zt_fd X d zm_327 11 [(0, .int x0), (1, .int x1), (2, .int x2), (3, .int x3)] [] (mH h s) Q := by
  refine zz_E.n 12 rfl rfl rfl ?_
  refine zz_E.c 14 (.int 27) rfl rfl rfl rfl ?_
  refine zz_E.b2 19 17 (A := ¬ x0 = 27) rfl (zz_cond_ne _ _) (by decide) rfl rfl (fun c => ?_) (fun c => ?_)
  · exact zz_E.weak (k1 c) rfl ⟨rfl, rfl, rfl, rfl, trivial⟩
  · exact zz_E.weak (k2 c) rfl trivial
theorem mb_327_17 {X : Nat → Option zz_C} {h : zz_H} (hh : 111 ≤ h.length) {s : mS} {d : Nat} {Q : Option Value → zz_H → Prop}  (k : Q (some (.int 1)) (mH h s)) : zz_E zp_P zt_tf zt_fd X d zm_327 17 [] [] (mH h s) Q := by
  refine zz_E.c 18 (.int 1) rfl rfl rfl rfl ?_
  refine zz_E.ret rfl rfl rfl ?_
  exact k
theorem mb_327_19 {X : Nat → Option zz_C} {h : zz_H} (hh : 111 ≤ h.length) {s : mS} {d : Nat} {Q : Option Value → zz_H → Prop} {x0 : Int32} {x1 : Int32} {x2 : Int32} {x3 : Int32} (k1 : ¬ x1 = 0 → zz_E zp_P zt_tf zt_fd X d zm_327 215 [(0, .int x0), (2, .int x2), (3, .int x3)] [] (mH h s) Q) (k2 : ¬ ¬ x1 = 0 → zz_E zp_P zt_tf zt_fd X d zm_327 23 [(0, .int x0), (2, .int x2)] [] (mH h s) Q) : zz_E zp_P zt_tf zt_fd X d zm_327 19 [(0, .int x0), (1, .int x1), (2, .int x2), (3, .int x3)] [] (mH h s) Q := by
  refine zz_E.n 20 rfl rfl rfl ?_
  refine zz_E.b1 215 23 (A := ¬ x1 = 0) rfl (zz_cond_ne _ _) (by decide) rfl rfl (fun c => ?_) (fun c => ?_)
  · exact zz_E.weak (k1 c) rfl ⟨rfl, rfl, rfl, trivial⟩
  · exact zz_E.weak (k2 c) rfl ⟨rfl, rfl, trivial⟩
theorem mb_327_23 {X : Nat → Option zz_C} {h : zz_H} (hh : 111 ≤ h.length) {s : mS} {d : Nat} {Q : Option Value → zz_H → Prop} {x0 : Int32} {x2 : Int32} (k1 : x0 < 4 → zz_E zp_P zt_tf zt_fd X d zm_327 40 [(2, .int x2)] [] (mH h s) Q) (k2 : ¬ x0 < 4 → zz_E zp_P zt_tf zt_fd X d zm_327 28 [(0, .int x0), (2, .int x2)] [] (mH h s) Q) : zz_E zp_P zt_tf zt_fd X d zm_327 23 [(0, .int x0), (2, .int x2)] [] (mH h s) Q := by
  refine zz_E.n 24 rfl rfl rfl ?_
  refine zz_E.c 25 (.int 4) rfl rfl rfl rfl ?_
  refine zz_E.b2 40 28 (A := x0 < 4) rfl rfl (by decide) rfl rfl (fun c => ?_) (fun c => ?_)
  · exact zz_E.weak (k1 c) rfl ⟨rfl, trivial⟩
  · exact zz_E.weak (k2 c) rfl ⟨rfl, rfl, trivial⟩
theorem mb_327_28 {X : Nat → Option zz_C} {h : zz_H} (hh : 111 ≤ h.length) {s : mS} {d : Nat} {Q : Option Value → zz_H → Prop} {x0 : Int32} {x2 : Int32} (k1 : x0 = 20 → zz_E zp_P zt_tf zt_fd X d zm_327 40 [(2, .int x2)] [] (mH h s) Q) (k2 : ¬ x0 = 20 → zz_E zp_P zt_tf zt_fd X d zm_327 34 [(0, .int x0), (2, .int x2)] [] (mH h s) Q) : zz_E zp_P zt_tf zt_fd X d zm_327 28 [(0, .int x0), (2, .int x2)] [] (mH h s) Q := by
  refine zz_E.n 29 rfl rfl rfl ?_
  refine zz_E.c 31 (.int 20) rfl rfl rfl rfl ?_
  refine zz_E.b2 40 34 (A := x0 = 20) rfl rfl (by decide) rfl rfl (fun c => ?_) (fun c => ?_)
  · exact zz_E.weak (k1 c) rfl ⟨rfl, trivial⟩
  · exact zz_E.weak (k2 c) rfl ⟨rfl, rfl, trivial⟩
theorem mb_327_34 {X : Nat → Option zz_C} {h : zz_H} (hh : 111 ≤ h.length) {s : mS} {d : Nat} {Q : Option Value → zz_H → Prop} {x0 : Int32} {x2 : Int32} (k1 : ¬ x0 = 21 → zz_E zp_P zt_tf zt_fd X d zm_327 50 [(0, .int x0), (2, .int x2)] [] (mH h s) Q) (k2 : ¬ ¬ x0 = 21 → zz_E zp_P zt_tf zt_fd X d zm_327 40 [(2, .int x2)] [] (mH h s) Q) : zz_E zp_P zt_tf zt_fd X d zm_327 34 [(0, .int x0), (2, .int x2)] [] (mH h s) Q := by
  refine zz_E.n 35 rfl rfl rfl ?_
  refine zz_E.c 37 (.int 21) rfl rfl rfl rfl ?_
  refine zz_E.b2 50 40 (A := ¬ x0 = 21) rfl (zz_cond_ne _ _) (by decide) rfl rfl (fun c => ?_) (fun c => ?_)
  · exact zz_E.weak (k1 c) rfl ⟨rfl, rfl, trivial⟩
  · exact zz_E.weak (k2 c) rfl ⟨rfl, trivial⟩
theorem mb_327_40 {X : Nat → Option zz_C} {h : zz_H} (hh : 111 ≤ h.length) {s : mS} {d : Nat} {Q : Option Value → zz_H → Prop} {x2 : Int32} (k1 : ¬ x2 = 0 → zz_E zp_P zt_tf zt_fd X d zm_327 48 [] [] (mH h s) Q) (k2 : ¬ ¬ x2 = 0 → zz_E zp_P zt_tf zt_fd X d zm_327 44 [] [] (mH h s) Q) : zz_E zp_P zt_tf zt_fd X d zm_327 40 [(2, .int x2)] [] (mH h s) Q := by
  refine zz_E.n 41 rfl rfl rfl ?_
  refine zz_E.b1 48 44 (A := ¬ x2 = 0) rfl (zz_cond_ne _ _) (by decide) rfl rfl (fun c => ?_) (fun c => ?_)
  · exact zz_E.weak (k1 c) rfl trivial
  · exact zz_E.weak (k2 c) rfl trivial
theorem mb_327_44 {X : Nat → Option zz_C} {h : zz_H} (hh : 111 ≤ h.length) {s : mS} {d : Nat} {Q : Option Value → zz_H → Prop}  (k : zz_E zp_P zt_tf zt_fd X d zm_327 49 [] [.int 1] (mH h s) Q) : zz_E zp_P zt_tf zt_fd X d zm_327 44 [] [] (mH h s) Q := by
  refine zz_E.c 45 (.int 1) rfl rfl rfl rfl ?_
  refine zz_E.n 49 rfl rfl rfl ?_
  exact zz_E.weak k rfl trivial
theorem mb_327_48 {X : Nat → Option zz_C} {h : zz_H} (hh : 111 ≤ h.length) {s : mS} {d : Nat} {Q : Option Value → zz_H → Prop}  (k : zz_E zp_P zt_tf zt_fd X d zm_327 49 [] [.int 0] (mH h s) Q) : zz_E zp_P zt_tf zt_fd X d zm_327 48 [] [] (mH h s) Q := by
  refine zz_E.c 49 (.int 0) rfl rfl rfl rfl ?_
  exact zz_E.weak k rfl trivial
theorem mb_327_49 {X : Nat → Option zz_C} {h : zz_H} (hh : 111 ≤ h.length) {s : mS} {d : Nat} {Q : Option Value → zz_H → Prop} {y0 : Int32} (k : Q (some (.int y0)) (mH h s)) (rb : zz_reti (some .boolean) y0 = true) : zz_E zp_P zt_tf zt_fd X d zm_327 49 [] [.int y0] (mH h s) Q := by
  refine zz_E.ret rfl rfl (if_pos ⟨rfl, rb⟩) ?_
  exact k
theorem mb_327_50 {X : Nat → Option zz_C} {h : zz_H} (hh : 111 ≤ h.length) {s : mS} {d : Nat} {Q : Option Value → zz_H → Prop} {x0 : Int32} {x2 : Int32} (k1 : x0 = 4 → zz_E zp_P zt_tf zt_fd X d zm_327 85 [(2, .int x2)] [] (mH h s) Q) (k2 : ¬ x0 = 4 → zz_E zp_P zt_tf zt_fd X d zm_327 55 [(0, .int x0), (2, .int x2)] [] (mH h s) Q) : zz_E zp_P zt_tf zt_fd X d zm_327 50 [(0, .int x0), (2, .int x2)] [] (mH h s) Q := by
  refine zz_E.n 51 rfl rfl rfl ?_
  refine zz_E.c 52 (.int 4) rfl rfl rfl rfl ?_
  refine zz_E.b2 85 55 (A := x0 = 4) rfl rfl (by decide) rfl rfl (fun c => ?_) (fun c => ?_)
  · exact zz_E.weak (k1 c) rfl ⟨rfl, trivial⟩
  · exact zz_E.weak (k2 c) rfl ⟨rfl, rfl, trivial⟩
theorem mb_327_55 {X : Nat → Option zz_C} {h : zz_H} (hh : 111 ≤ h.length) {s : mS} {d : Nat} {Q : Option Value → zz_H → Prop} {x0 : Int32} {x2 : Int32} (k1 : x0 = 14 → zz_E zp_P zt_tf zt_fd X d zm_327 85 [(2, .int x2)] [] (mH h s) Q) (k2 : ¬ x0 = 14 → zz_E zp_P zt_tf zt_fd X d zm_327 61 [(0, .int x0), (2, .int x2)] [] (mH h s) Q) : zz_E zp_P zt_tf zt_fd X d zm_327 55 [(0, .int x0), (2, .int x2)] [] (mH h s) Q := by
  refine zz_E.n 56 rfl rfl rfl ?_
  refine zz_E.c 58 (.int 14) rfl rfl rfl rfl ?_
  refine zz_E.b2 85 61 (A := x0 = 14) rfl rfl (by decide) rfl rfl (fun c => ?_) (fun c => ?_)
  · exact zz_E.weak (k1 c) rfl ⟨rfl, trivial⟩
  · exact zz_E.weak (k2 c) rfl ⟨rfl, rfl, trivial⟩
theorem mb_327_61 {X : Nat → Option zz_C} {h : zz_H} (hh : 111 ≤ h.length) {s : mS} {d : Nat} {Q : Option Value → zz_H → Prop} {x0 : Int32} {x2 : Int32} (k1 : x0 = 18 → zz_E zp_P zt_tf zt_fd X d zm_327 85 [(2, .int x2)] [] (mH h s) Q) (k2 : ¬ x0 = 18 → zz_E zp_P zt_tf zt_fd X d zm_327 67 [(0, .int x0), (2, .int x2)] [] (mH h s) Q) : zz_E zp_P zt_tf zt_fd X d zm_327 61 [(0, .int x0), (2, .int x2)] [] (mH h s) Q := by
  refine zz_E.n 62 rfl rfl rfl ?_
  refine zz_E.c 64 (.int 18) rfl rfl rfl rfl ?_
  refine zz_E.b2 85 67 (A := x0 = 18) rfl rfl (by decide) rfl rfl (fun c => ?_) (fun c => ?_)
  · exact zz_E.weak (k1 c) rfl ⟨rfl, trivial⟩
  · exact zz_E.weak (k2 c) rfl ⟨rfl, rfl, trivial⟩
theorem mb_327_67 {X : Nat → Option zz_C} {h : zz_H} (hh : 111 ≤ h.length) {s : mS} {d : Nat} {Q : Option Value → zz_H → Prop} {x0 : Int32} {x2 : Int32} (k1 : x0 = 22 → zz_E zp_P zt_tf zt_fd X d zm_327 85 [(2, .int x2)] [] (mH h s) Q) (k2 : ¬ x0 = 22 → zz_E zp_P zt_tf zt_fd X d zm_327 73 [(0, .int x0), (2, .int x2)] [] (mH h s) Q) : zz_E zp_P zt_tf zt_fd X d zm_327 67 [(0, .int x0), (2, .int x2)] [] (mH h s) Q := by
  refine zz_E.n 68 rfl rfl rfl ?_
  refine zz_E.c 70 (.int 22) rfl rfl rfl rfl ?_
  refine zz_E.b2 85 73 (A := x0 = 22) rfl rfl (by decide) rfl rfl (fun c => ?_) (fun c => ?_)
  · exact zz_E.weak (k1 c) rfl ⟨rfl, trivial⟩
  · exact zz_E.weak (k2 c) rfl ⟨rfl, rfl, trivial⟩
theorem mb_327_73 {X : Nat → Option zz_C} {h : zz_H} (hh : 111 ≤ h.length) {s : mS} {d : Nat} {Q : Option Value → zz_H → Prop} {x0 : Int32} {x2 : Int32} (k1 : x0 = 24 → zz_E zp_P zt_tf zt_fd X d zm_327 85 [(2, .int x2)] [] (mH h s) Q) (k2 : ¬ x0 = 24 → zz_E zp_P zt_tf zt_fd X d zm_327 79 [(0, .int x0), (2, .int x2)] [] (mH h s) Q) : zz_E zp_P zt_tf zt_fd X d zm_327 73 [(0, .int x0), (2, .int x2)] [] (mH h s) Q := by
  refine zz_E.n 74 rfl rfl rfl ?_
  refine zz_E.c 76 (.int 24) rfl rfl rfl rfl ?_
  refine zz_E.b2 85 79 (A := x0 = 24) rfl rfl (by decide) rfl rfl (fun c => ?_) (fun c => ?_)
  · exact zz_E.weak (k1 c) rfl ⟨rfl, trivial⟩
  · exact zz_E.weak (k2 c) rfl ⟨rfl, rfl, trivial⟩
theorem mb_327_79 {X : Nat → Option zz_C} {h : zz_H} (hh : 111 ≤ h.length) {s : mS} {d : Nat} {Q : Option Value → zz_H → Prop} {x0 : Int32} {x2 : Int32} (k1 : ¬ x0 = 26 → zz_E zp_P zt_tf zt_fd X d zm_327 96 [(0, .int x0), (2, .int x2)] [] (mH h s) Q) (k2 : ¬ ¬ x0 = 26 → zz_E zp_P zt_tf zt_fd X d zm_327 85 [(2, .int x2)] [] (mH h s) Q) : zz_E zp_P zt_tf zt_fd X d zm_327 79 [(0, .int x0), (2, .int x2)] [] (mH h s) Q := by
  refine zz_E.n 80 rfl rfl rfl ?_
  refine zz_E.c 82 (.int 26) rfl rfl rfl rfl ?_
  refine zz_E.b2 96 85 (A := ¬ x0 = 26) rfl (zz_cond_ne _ _) (by decide) rfl rfl (fun c => ?_) (fun c => ?_)
  · exact zz_E.weak (k1 c) rfl ⟨rfl, rfl, trivial⟩
  · exact zz_E.weak (k2 c) rfl ⟨rfl, trivial⟩
theorem mb_327_85 {X : Nat → Option zz_C} {h : zz_H} (hh : 111 ≤ h.length) {s : mS} {d : Nat} {Q : Option Value → zz_H → Prop} {x2 : Int32} (k1 : ¬ x2 = 1 → zz_E zp_P zt_tf zt_fd X d zm_327 94 [] [] (mH h s) Q) (k2 : ¬ ¬ x2 = 1 → zz_E zp_P zt_tf zt_fd X d zm_327 90 [] [] (mH h s) Q) : zz_E zp_P zt_tf zt_fd X d zm_327 85 [(2, .int x2)] [] (mH h s) Q := by
  refine zz_E.n 86 rfl rfl rfl ?_
  refine zz_E.c 87 (.int 1) rfl rfl rfl rfl ?_
  refine zz_E.b2 94 90 (A := ¬ x2 = 1) rfl (zz_cond_ne _ _) (by decide) rfl rfl (fun c => ?_) (fun c => ?_)
  · exact zz_E.weak (k1 c) rfl trivial
  · exact zz_E.weak (k2 c) rfl trivial
theorem mb_327_90 {X : Nat → Option zz_C} {h : zz_H} (hh : 111 ≤ h.length) {s : mS} {d : Nat} {Q : Option Value → zz_H → Prop}  (k : zz_E zp_P zt_tf zt_fd X d zm_327 95 [] [.int 1] (mH h s) Q) : zz_E zp_P zt_tf zt_fd X d zm_327 90 [] [] (mH h s) Q := by
  refine zz_E.c 91 (.int 1) rfl rfl rfl rfl ?_
  refine zz_E.n 95 rfl rfl rfl ?_
  exact zz_E.weak k rfl trivial
theorem mb_327_94 {X : Nat → Option zz_C} {h : zz_H} (hh : 111 ≤ h.length) {s : mS} {d : Nat} {Q : Option Value → zz_H → Prop}  (k : zz_E zp_P zt_tf zt_fd X d zm_327 95 [] [.int 0] (mH h s) Q) : zz_E zp_P zt_tf zt_fd X d zm_327 94 [] [] (mH h s) Q := by
  refine zz_E.c 95 (.int 0) rfl rfl rfl rfl ?_
  exact zz_E.weak k rfl trivial
theorem mb_327_95 {X : Nat → Option zz_C} {h : zz_H} (hh : 111 ≤ h.length) {s : mS} {d : Nat} {Q : Option Value → zz_H → Prop} {y0 : Int32} (k : Q (some (.int y0)) (mH h s)) (rb : zz_reti (some .boolean) y0 = true) : zz_E zp_P zt_tf zt_fd X d zm_327 95 [] [.int y0] (mH h s) Q := by
  refine zz_E.ret rfl rfl (if_pos ⟨rfl, rb⟩) ?_
  exact k
theorem mb_327_96 {X : Nat → Option zz_C} {h : zz_H} (hh : 111 ≤ h.length) {s : mS} {d : Nat} {Q : Option Value → zz_H → Prop} {x0 : Int32} {x2 : Int32} (k1 : x0 = 6 → zz_E zp_P zt_tf zt_fd X d zm_327 114 [(2, .int x2)] [] (mH h s) Q) (k2 : ¬ x0 = 6 → zz_E zp_P zt_tf zt_fd X d zm_327 102 [(0, .int x0), (2, .int x2)] [] (mH h s) Q) : zz_E zp_P zt_tf zt_fd X d zm_327 96 [(0, .int x0), (2, .int x2)] [] (mH h s) Q := by
  refine zz_E.n 97 rfl rfl rfl ?_
  refine zz_E.c 99 (.int 6) rfl rfl rfl rfl ?_
  refine zz_E.b2 114 102 (A := x0 = 6) rfl rfl (by decide) rfl rfl (fun c => ?_) (fun c => ?_)
  · exact zz_E.weak (k1 c) rfl ⟨rfl, trivial⟩
  · exact zz_E.weak (k2 c) rfl ⟨rfl, rfl, trivial⟩
theorem mb_327_102 {X : Nat → Option zz_C} {h : zz_H} (hh : 111 ≤ h.length) {s : mS} {d : Nat} {Q : Option Value → zz_H → Prop} {x0 : Int32} {x2 : Int32} (k1 : x0 = 15 → zz_E zp_P zt_tf zt_fd X d zm_327 114 [(2, .int x2)] [] (mH h s) Q) (k2 : ¬ x0 = 15 → zz_E zp_P zt_tf zt_fd X d zm_327 108 [(0, .int x0), (2, .int x2)] [] (mH h s) Q) : zz_E zp_P zt_tf zt_fd X d zm_327 102 [(0, .int x0), (2, .int x2)] [] (mH h s) Q := by
  refine zz_E.n 103 rfl rfl rfl ?_
  refine zz_E.c 105 (.int 15) rfl rfl rfl rfl ?_
  refine zz_E.b2 114 108 (A := x0 = 15) rfl rfl (by decide) rfl rfl (fun c => ?_) (fun c => ?_)
  · exact zz_E.weak (k1 c) rfl ⟨rfl, trivial⟩
  · exact zz_E.weak (k2 c) rfl ⟨rfl, rfl, trivial⟩
theorem mb_327_108 {X : Nat → Option zz_C} {h : zz_H} (hh : 111 ≤ h.length) {s : mS} {d : Nat} {Q : Option Value → zz_H → Prop} {x0 : Int32} {x2 : Int32} (k1 : ¬ x0 = 23 → zz_E zp_P zt_tf zt_fd X d zm_327 124 [(0, .int x0), (2, .int x2)] [] (mH h s) Q) (k2 : ¬ ¬ x0 = 23 → zz_E zp_P zt_tf zt_fd X d zm_327 114 [(2, .int x2)] [] (mH h s) Q) : zz_E zp_P zt_tf zt_fd X d zm_327 108 [(0, .int x0), (2, .int x2)] [] (mH h s) Q := by
  refine zz_E.n 109 rfl rfl rfl ?_
  refine zz_E.c 111 (.int 23) rfl rfl rfl rfl ?_
  refine zz_E.b2 124 114 (A := ¬ x0 = 23) rfl (zz_cond_ne _ _) (by decide) rfl rfl (fun c => ?_) (fun c => ?_)
  · exact zz_E.weak (k1 c) rfl ⟨rfl, rfl, trivial⟩
  · exact zz_E.weak (k2 c) rfl ⟨rfl, trivial⟩
theorem mb_327_114 {X : Nat → Option zz_C} {h : zz_H} (hh : 111 ≤ h.length) {s : mS} {d : Nat} {Q : Option Value → zz_H → Prop} {x2 : Int32} (k1 : x2 ≤ 0 → zz_E zp_P zt_tf zt_fd X d zm_327 122 [] [] (mH h s) Q) (k2 : ¬ x2 ≤ 0 → zz_E zp_P zt_tf zt_fd X d zm_327 118 [] [] (mH h s) Q) : zz_E zp_P zt_tf zt_fd X d zm_327 114 [(2, .int x2)] [] (mH h s) Q := by
  refine zz_E.n 115 rfl rfl rfl ?_
  refine zz_E.b1 122 118 (A := x2 ≤ 0) rfl rfl (by decide) rfl rfl (fun c => ?_) (fun c => ?_)
  · exact zz_E.weak (k1 c) rfl trivial
  · exact zz_E.weak (k2 c) rfl trivial
theorem mb_327_118 {X : Nat → Option zz_C} {h : zz_H} (hh : 111 ≤ h.length) {s : mS} {d : Nat} {Q : Option Value → zz_H → Prop}  (k : zz_E zp_P zt_tf zt_fd X d zm_327 123 [] [.int 1] (mH h s) Q) : zz_E zp_P zt_tf zt_fd X d zm_327 118 [] [] (mH h s) Q := by
  refine zz_E.c 119 (.int 1) rfl rfl rfl rfl ?_
  refine zz_E.n 123 rfl rfl rfl ?_
  exact zz_E.weak k rfl trivial
theorem mb_327_122 {X : Nat → Option zz_C} {h : zz_H} (hh : 111 ≤ h.length) {s : mS} {d : Nat} {Q : Option Value → zz_H → Prop}  (k : zz_E zp_P zt_tf zt_fd X d zm_327 123 [] [.int 0] (mH h s) Q) : zz_E zp_P zt_tf zt_fd X d zm_327 122 [] [] (mH h s) Q := by
  refine zz_E.c 123 (.int 0) rfl rfl rfl rfl ?_
  exact zz_E.weak k rfl trivial
theorem mb_327_123 {X : Nat → Option zz_C} {h : zz_H} (hh : 111 ≤ h.length) {s : mS} {d : Nat} {Q : Option Value → zz_H → Prop} {y0 : Int32} (k : Q (some (.int y0)) (mH h s)) (rb : zz_reti (some .boolean) y0 = true) : zz_E zp_P zt_tf zt_fd X d zm_327 123 [] [.int y0] (mH h s) Q := by
  refine zz_E.ret rfl rfl (if_pos ⟨rfl, rb⟩) ?_
  exact k
theorem mb_327_124 {X : Nat → Option zz_C} {h : zz_H} (hh : 111 ≤ h.length) {s : mS} {d : Nat} {Q : Option Value → zz_H → Prop} {x0 : Int32} {x2 : Int32} (k1 : x0 = 7 → zz_E zp_P zt_tf zt_fd X d zm_327 142 [(2, .int x2)] [] (mH h s) Q) (k2 : ¬ x0 = 7 → zz_E zp_P zt_tf zt_fd X d zm_327 130 [(0, .int x0), (2, .int x2)] [] (mH h s) Q) : zz_E zp_P zt_tf zt_fd X d zm_327 124 [(0, .int x0), (2, .int x2)] [] (mH h s) Q := by
  refine zz_E.n 125 rfl rfl rfl ?_
  refine zz_E.c 127 (.int 7) rfl rfl rfl rfl ?_
  refine zz_E.b2 142 130 (A := x0 = 7) rfl rfl (by decide) rfl rfl (fun c => ?_) (fun c => ?_)
  · exact zz_E.weak (k1 c) rfl ⟨rfl, trivial⟩
  · exact zz_E.weak (k2 c) rfl ⟨rfl, rfl, trivial⟩
theorem mb_327_130 {X : Nat → Option zz_C} {h : zz_H} (hh : 111 ≤ h.length) {s : mS} {d : Nat} {Q : Option Value → zz_H → Prop} {x0 : Int32} {x2 : Int32} (k1 : x0 = 17 → zz_E zp_P zt_tf zt_fd X d zm_327 142 [(2, .int x2)] [] (mH h s) Q) (k2 : ¬ x0 = 17 → zz_E zp_P zt_tf zt_fd X d zm_327 136 [(0, .int x0), (2, .int x2)] [] (mH h s) Q) : zz_E zp_P zt_tf zt_fd X d zm_327 130 [(0, .int x0), (2, .int x2)] [] (mH h s) Q := by
  refine zz_E.n 131 rfl rfl rfl ?_
  refine zz_E.c 133 (.int 17) rfl rfl rfl rfl ?_
  refine zz_E.b2 142 136 (A := x0 = 17) rfl rfl (by decide) rfl rfl (fun c => ?_) (fun c => ?_)
  · exact zz_E.weak (k1 c) rfl ⟨rfl, trivial⟩
  · exact zz_E.weak (k2 c) rfl ⟨rfl, rfl, trivial⟩
theorem mb_327_136 {X : Nat → Option zz_C} {h : zz_H} (hh : 111 ≤ h.length) {s : mS} {d : Nat} {Q : Option Value → zz_H → Prop} {x0 : Int32} {x2 : Int32} (k1 : ¬ x0 = 25 → zz_E zp_P zt_tf zt_fd X d zm_327 153 [(0, .int x0), (2, .int x2)] [] (mH h s) Q) (k2 : ¬ ¬ x0 = 25 → zz_E zp_P zt_tf zt_fd X d zm_327 142 [(2, .int x2)] [] (mH h s) Q) : zz_E zp_P zt_tf zt_fd X d zm_327 136 [(0, .int x0), (2, .int x2)] [] (mH h s) Q := by
  refine zz_E.n 137 rfl rfl rfl ?_
  refine zz_E.c 139 (.int 25) rfl rfl rfl rfl ?_
  refine zz_E.b2 153 142 (A := ¬ x0 = 25) rfl (zz_cond_ne _ _) (by decide) rfl rfl (fun c => ?_) (fun c => ?_)
  · exact zz_E.weak (k1 c) rfl ⟨rfl, rfl, trivial⟩
  · exact zz_E.weak (k2 c) rfl ⟨rfl, trivial⟩
theorem mb_327_142 {X : Nat → Option zz_C} {h : zz_H} (hh : 111 ≤ h.length) {s : mS} {d : Nat} {Q : Option Value → zz_H → Prop} {x2 : Int32} (k1 : ¬ x2 = 2 → zz_E zp_P zt_tf zt_fd X d zm_327 151 [] [] (mH h s) Q) (k2 : ¬ ¬ x2 = 2 → zz_E zp_P zt_tf zt_fd X d zm_327 147 [] [] (mH h s) Q) : zz_E zp_P zt_tf zt_fd X d zm_327 142 [(2, .int x2)] [] (mH h s) Q := by
  refine zz_E.n 143 rfl rfl rfl ?_
  refine zz_E.c 144 (.int 2) rfl rfl rfl rfl ?_
  refine zz_E.b2 151 147 (A := ¬ x2 = 2) rfl (zz_cond_ne _ _) (by decide) rfl rfl (fun c => ?_) (fun c => ?_)
  · exact zz_E.weak (k1 c) rfl trivial
  · exact zz_E.weak (k2 c) rfl trivial
theorem mb_327_147 {X : Nat → Option zz_C} {h : zz_H} (hh : 111 ≤ h.length) {s : mS} {d : Nat} {Q : Option Value → zz_H → Prop}  (k : zz_E zp_P zt_tf zt_fd X d zm_327 152 [] [.int 1] (mH h s) Q) : zz_E zp_P zt_tf zt_fd X d zm_327 147 [] [] (mH h s) Q := by
  refine zz_E.c 148 (.int 1) rfl rfl rfl rfl ?_
  refine zz_E.n 152 rfl rfl rfl ?_
  exact zz_E.weak k rfl trivial
theorem mb_327_151 {X : Nat → Option zz_C} {h : zz_H} (hh : 111 ≤ h.length) {s : mS} {d : Nat} {Q : Option Value → zz_H → Prop}  (k : zz_E zp_P zt_tf zt_fd X d zm_327 152 [] [.int 0] (mH h s) Q) : zz_E zp_P zt_tf zt_fd X d zm_327 151 [] [] (mH h s) Q := by
  refine zz_E.c 152 (.int 0) rfl rfl rfl rfl ?_
  exact zz_E.weak k rfl trivial
theorem mb_327_152 {X : Nat → Option zz_C} {h : zz_H} (hh : 111 ≤ h.length) {s : mS} {d : Nat} {Q : Option Value → zz_H → Prop} {y0 : Int32} (k : Q (some (.int y0)) (mH h s)) (rb : zz_reti (some .boolean) y0 = true) : zz_E zp_P zt_tf zt_fd X d zm_327 152 [] [.int y0] (mH h s) Q := by
  refine zz_E.ret rfl rfl (if_pos ⟨rfl, rb⟩) ?_
  exact k
theorem mb_327_153 {X : Nat → Option zz_C} {h : zz_H} (hh : 111 ≤ h.length) {s : mS} {d : Nat} {Q : Option Value → zz_H → Prop} {x0 : Int32} {x2 : Int32} (k1 : ¬ x0 = 9 → zz_E zp_P zt_tf zt_fd X d zm_327 170 [(0, .int x0), (2, .int x2)] [] (mH h s) Q) (k2 : ¬ ¬ x0 = 9 → zz_E zp_P zt_tf zt_fd X d zm_327 159 [(2, .int x2)] [] (mH h s) Q) : zz_E zp_P zt_tf zt_fd X d zm_327 153 [(0, .int x0), (2, .int x2)] [] (mH h s) Q := by
  refine zz_E.n 154 rfl rfl rfl ?_
  refine zz_E.c 156 (.int 9) rfl rfl rfl rfl ?_
  refine zz_E.b2 170 159 (A := ¬ x0 = 9) rfl (zz_cond_ne _ _) (by decide) rfl rfl (fun c => ?_) (fun c => ?_)
  · exact zz_E.weak (k1 c) rfl ⟨rfl, rfl, trivial⟩
  · exact zz_E.weak (k2 c) rfl ⟨rfl, trivial⟩
theorem mb_327_159 {X : Nat → Option zz_C} {h : zz_H} (hh : 111 ≤ h.length) {s : mS} {d : Nat} {Q : Option Value → zz_H → Prop} {x2 : Int32} (k1 : 3 ≤ x2 → zz_E zp_P zt_tf zt_fd X d zm_327 168 [] [] (mH h s) Q) (k2 : ¬ 3 ≤ x2 → zz_E zp_P zt_tf zt_fd X d zm_327 164 [] [] (mH h s) Q) : zz_E zp_P zt_tf zt_fd X d zm_327 159 [(2, .int x2)] [] (mH h s) Q := by
  refine zz_E.n 160 rfl rfl rfl ?_
  refine zz_E.c 161 (.int 3) rfl rfl rfl rfl ?_
  refine zz_E.b2 168 164 (A := 3 ≤ x2) rfl rfl (by decide) rfl rfl (fun c => ?_) (fun c => ?_)
  · exact zz_E.weak (k1 c) rfl trivial
  · exact zz_E.weak (k2 c) rfl trivial
theorem mb_327_164 {X : Nat → Option zz_C} {h : zz_H} (hh : 111 ≤ h.length) {s : mS} {d : Nat} {Q : Option Value → zz_H → Prop}  (k : zz_E zp_P zt_tf zt_fd X d zm_327 169 [] [.int 1] (mH h s) Q) : zz_E zp_P zt_tf zt_fd X d zm_327 164 [] [] (mH h s) Q := by
  refine zz_E.c 165 (.int 1) rfl rfl rfl rfl ?_
  refine zz_E.n 169 rfl rfl rfl ?_
  exact zz_E.weak k rfl trivial
theorem mb_327_168 {X : Nat → Option zz_C} {h : zz_H} (hh : 111 ≤ h.length) {s : mS} {d : Nat} {Q : Option Value → zz_H → Prop}  (k : zz_E zp_P zt_tf zt_fd X d zm_327 169 [] [.int 0] (mH h s) Q) : zz_E zp_P zt_tf zt_fd X d zm_327 168 [] [] (mH h s) Q := by
  refine zz_E.c 169 (.int 0) rfl rfl rfl rfl ?_
  exact zz_E.weak k rfl trivial
theorem mb_327_169 {X : Nat → Option zz_C} {h : zz_H} (hh : 111 ≤ h.length) {s : mS} {d : Nat} {Q : Option Value → zz_H → Prop} {y0 : Int32} (k : Q (some (.int y0)) (mH h s)) (rb : zz_reti (some .boolean) y0 = true) : zz_E zp_P zt_tf zt_fd X d zm_327 169 [] [.int y0] (mH h s) Q := by
  refine zz_E.ret rfl rfl (if_pos ⟨rfl, rb⟩) ?_
  exact k
theorem mb_327_170 {X : Nat → Option zz_C} {h : zz_H} (hh : 111 ≤ h.length) {s : mS} {d : Nat} {Q : Option Value → zz_H → Prop} {x0 : Int32} {x2 : Int32} (k1 : x0 < 10 → zz_E zp_P zt_tf zt_fd X d zm_327 198 [(0, .int x0), (2, .int x2)] [] (mH h s) Q) (k2 : ¬ x0 < 10 → zz_E zp_P zt_tf zt_fd X d zm_327 176 [(0, .int x0), (2, .int x2)] [] (mH h s) Q) : zz_E zp_P zt_tf zt_fd X d zm_327 170 [(0, .int x0), (2, .int x2)] [] (mH h s) Q := by
  refine zz_E.n 171 rfl rfl rfl ?_
  refine zz_E.c 173 (.int 10) rfl rfl rfl rfl ?_
  refine zz_E.b2 198 176 (A := x0 < 10) rfl rfl (by decide) rfl rfl (fun c => ?_) (fun c => ?_)
  · exact zz_E.weak (k1 c) rfl ⟨rfl, rfl, trivial⟩
  · exact zz_E.weak (k2 c) rfl ⟨rfl, rfl, trivial⟩
theorem mb_327_176 {X : Nat → Option zz_C} {h : zz_H} (hh : 111 ≤ h.length) {s : mS} {d : Nat} {Q : Option Value → zz_H → Prop} {x0 : Int32} {x2 : Int32} (k1 : 13 < x0 → zz_E zp_P zt_tf zt_fd X d zm_327 198 [(0, .int x0), (2, .int x2)] [] (mH h s) Q) (k2 : ¬ 13 < x0 → zz_E zp_P zt_tf zt_fd X d zm_327 182 [(2, .int x2)] [] (mH h s) Q) : zz_E zp_P zt_tf zt_fd X d zm_327 176 [(0, .int x0), (2, .int x2)] [] (mH h s) Q := by
  refine zz_E.n 177 rfl rfl rfl ?_
  refine zz_E.c 179 (.int 13) rfl rfl rfl rfl ?_
  refine zz_E.b2 198 182 (A := 13 < x0) rfl rfl (by decide) rfl rfl (fun c => ?_) (fun c => ?_)
  · exact zz_E.weak (k1 c) rfl ⟨rfl, rfl, trivial⟩
  · exact zz_E.weak (k2 c) rfl ⟨rfl, trivial⟩
theorem mb_327_182 {X : Nat → Option zz_C} {h : zz_H} (hh : 111 ≤ h.length) {s : mS} {d : Nat} {Q : Option Value → zz_H → Prop} {x2 : Int32} (k1 : x2 = 1 → zz_E zp_P zt_tf zt_fd X d zm_327 192 [] [] (mH h s) Q) (k2 : ¬ x2 = 1 → zz_E zp_P zt_tf zt_fd X d zm_327 187 [(2, .int x2)] [] (mH h s) Q) : zz_E zp_P zt_tf zt_fd X d zm_327 182 [(2, .int x2)] [] (mH h s) Q := by
  refine zz_E.n 183 rfl rfl rfl ?_
  refine zz_E.c 184 (.int 1) rfl rfl rfl rfl ?_
  refine zz_E.b2 192 187 (A := x2 = 1) rfl rfl (by decide) rfl rfl (fun c => ?_) (fun c => ?_)
  · exact zz_E.weak (k1 c) rfl trivial
  · exact zz_E.weak (k2 c) rfl ⟨rfl, trivial⟩
theorem mb_327_187 {X : Nat → Option zz_C} {h : zz_H} (hh : 111 ≤ h.length) {s : mS} {d : Nat} {Q : Option Value → zz_H → Prop} {x2 : Int32} (k1 : ¬ x2 = 2 → zz_E zp_P zt_tf zt_fd X d zm_327 196 [] [] (mH h s) Q) (k2 : ¬ ¬ x2 = 2 → zz_E zp_P zt_tf zt_fd X d zm_327 192 [] [] (mH h s) Q) : zz_E zp_P zt_tf zt_fd X d zm_327 187 [(2, .int x2)] [] (mH h s) Q := by
  refine zz_E.n 188 rfl rfl rfl ?_
  refine zz_E.c 189 (.int 2) rfl rfl rfl rfl ?_
  refine zz_E.b2 196 192 (A := ¬ x2 = 2) rfl (zz_cond_ne _ _) (by decide) rfl rfl (fun c => ?_) (fun c => ?_)
  · exact zz_E.weak (k1 c) rfl trivial
  · exact zz_E.weak (k2 c) rfl trivial
theorem mb_327_192 {X : Nat → Option zz_C} {h : zz_H} (hh : 111 ≤ h.length) {s : mS} {d : Nat} {Q : Option Value → zz_H → Prop}  (k : zz_E zp_P zt_tf zt_fd X d zm_327 197 [] [.int 1] (mH h s) Q) : zz_E zp_P zt_tf zt_fd X d zm_327 192 [] [] (mH h s) Q := by
  refine zz_E.c 193 (.int 1) rfl rfl rfl rfl ?_
  refine zz_E.n 197 rfl rfl rfl ?_
  exact zz_E.weak k rfl trivial
theorem mb_327_196 {X : Nat → Option zz_C} {h : zz_H} (hh : 111 ≤ h.length) {s : mS} {d : Nat} {Q : Option Value → zz_H → Prop}  (k : zz_E zp_P zt_tf zt_fd X d zm_327 197 [] [.int 0] (mH h s) Q) : zz_E zp_P zt_tf zt_fd X d zm_327 196 [] [] (mH h s) Q := by
  refine zz_E.c 197 (.int 0) rfl rfl rfl rfl ?_
  exact zz_E.weak k rfl trivial
theorem mb_327_197 {X : Nat → Option zz_C} {h : zz_H} (hh : 111 ≤ h.length) {s : mS} {d : Nat} {Q : Option Value → zz_H → Prop} {y0 : Int32} (k : Q (some (.int y0)) (mH h s)) (rb : zz_reti (some .boolean) y0 = true) : zz_E zp_P zt_tf zt_fd X d zm_327 197 [] [.int y0] (mH h s) Q := by
  refine zz_E.ret rfl rfl (if_pos ⟨rfl, rb⟩) ?_
  exact k
theorem mb_327_198 {X : Nat → Option zz_C} {h : zz_H} (hh : 111 ≤ h.length) {s : mS} {d : Nat} {Q : Option Value → zz_H → Prop} {x0 : Int32} {x2 : Int32} (k1 : ¬ x0 = 16 → zz_E zp_P zt_tf zt_fd X d zm_327 209 [] [] (mH h s) Q) (k2 : ¬ ¬ x0 = 16 → zz_E zp_P zt_tf zt_fd X d zm_327 204 [(2, .int x2)] [] (mH h s) Q) : zz_E zp_P zt_tf zt_fd X d zm_327 198 [(0, .int x0), (2, .int x2)] [] (mH h s) Q := by
  refine zz_E.n 199 rfl rfl rfl ?_
  refine zz_E.c 201 (.int 16) rfl rfl rfl rfl ?_
  refine zz_E.b2 209 204 (A := ¬ x0 = 16) rfl (zz_cond_ne _ _) (by decide) rfl rfl (fun c => ?_) (fun c => ?_)
  · exact zz_E.weak (k1 c) rfl trivial
  · exact zz_E.weak (k2 c) rfl ⟨rfl, trivial⟩
theorem mb_327_204 {X : Nat → Option zz_C} {h : zz_H} (hh : 111 ≤ h.length) {s : mS} {d : Nat} {Q : Option Value → zz_H → Prop} {x2 : Int32} (k1 : x2 ≤ 1 → zz_E zp_P zt_tf zt_fd X d zm_327 213 [] [] (mH h s) Q) (k2 : ¬ x2 ≤ 1 → zz_E zp_P zt_tf zt_fd X d zm_327 209 [] [] (mH h s) Q) : zz_E zp_P zt_tf zt_fd X d zm_327 204 [(2, .int x2)] [] (mH h s) Q := by
  refine zz_E.n 205 rfl rfl rfl ?_
  refine zz_E.c 206 (.int 1) rfl rfl rfl rfl ?_
  refine zz_E.b2 213 209 (A := x2 ≤ 1) rfl rfl (by decide) rfl rfl (fun c => ?_) (fun c => ?_)
  · exact zz_E.weak (k1 c) rfl trivial
  · exact zz_E.weak (k2 c) rfl trivial
theorem mb_327_209 {X : Nat → Option zz_C} {h : zz_H} (hh : 111 ≤ h.length) {s : mS} {d : Nat} {Q : Option Value → zz_H → Prop}  (k : zz_E zp_P zt_tf zt_fd X d zm_327 214 [] [.int 1] (mH h s) Q) : zz_E zp_P zt_tf zt_fd X d zm_327 209 [] [] (mH h s) Q := by
  refine zz_E.c 210 (.int 1) rfl rfl rfl rfl ?_
  refine zz_E.n 214 rfl rfl rfl ?_
  exact zz_E.weak k rfl trivial
theorem mb_327_213 {X : Nat → Option zz_C} {h : zz_H} (hh : 111 ≤ h.length) {s : mS} {d : Nat} {Q : Option Value → zz_H → Prop}  (k : zz_E zp_P zt_tf zt_fd X d zm_327 214 [] [.int 0] (mH h s) Q) : zz_E zp_P zt_tf zt_fd X d zm_327 213 [] [] (mH h s) Q := by
  refine zz_E.c 214 (.int 0) rfl rfl rfl rfl ?_
  exact zz_E.weak k rfl trivial
theorem mb_327_214 {X : Nat → Option zz_C} {h : zz_H} (hh : 111 ≤ h.length) {s : mS} {d : Nat} {Q : Option Value → zz_H → Prop} {y0 : Int32} (k : Q (some (.int y0)) (mH h s)) (rb : zz_reti (some .boolean) y0 = true) : zz_E zp_P zt_tf zt_fd X d zm_327 214 [] [.int y0] (mH h s) Q := by
  refine zz_E.ret rfl rfl (if_pos ⟨rfl, rb⟩) ?_
  exact k
theorem mb_327_215 {X : Nat → Option zz_C} {h : zz_H} (hh : 111 ≤ h.length) {s : mS} {d : Nat} {Q : Option Value → zz_H → Prop} {x0 : Int32} {x2 : Int32} {x3 : Int32} (k1 : x0 = 3 → zz_E zp_P zt_tf zt_fd X d zm_327 226 [(2, .int x2)] [] (mH h s) Q) (k2 : ¬ x0 = 3 → zz_E zp_P zt_tf zt_fd X d zm_327 220 [(0, .int x0), (2, .int x2), (3, .int x3)] [] (mH h s) Q) : zz_E zp_P zt_tf zt_fd X d zm_327 215 [(0, .int x0), (2, .int x2), (3, .int x3)] [] (mH h s) Q := by
  refine zz_E.n 216 rfl rfl rfl ?_
  refine zz_E.c 217 (.int 3) rfl rfl rfl rfl ?_
  refine zz_E.b2 226 220 (A := x0 = 3) rfl rfl (by decide) rfl rfl (fun c => ?_) (fun c => ?_)
  · exact zz_E.weak (k1 c) rfl ⟨rfl, trivial⟩
  · exact zz_E.weak (k2 c) rfl ⟨rfl, rfl, rfl, trivial⟩
theorem mb_327_220 {X : Nat → Option zz_C} {h : zz_H} (hh : 111 ≤ h.length) {s : mS} {d : Nat} {Q : Option Value → zz_H → Prop} {x0 : Int32} {x2 : Int32} {x3 : Int32} (k1 : ¬ x0 = 25 → zz_E zp_P zt_tf zt_fd X d zm_327 236 [(0, .int x0), (2, .int x2), (3, .int x3)] [] (mH h s) Q) (k2 : ¬ ¬ x0 = 25 → zz_E zp_P zt_tf zt_fd X d zm_327 226 [(2, .int x2)] [] (mH h s) Q) : zz_E zp_P zt_tf zt_fd X d zm_327 220 [(0, .int x0), (2, .int x2), (3, .int x3)] [] (mH h s) Q := by
  refine zz_E.n 221 rfl rfl rfl ?_
  refine zz_E.c 223 (.int 25) rfl rfl rfl rfl ?_
  refine zz_E.b2 236 226 (A := ¬ x0 = 25) rfl (zz_cond_ne _ _) (by decide) rfl rfl (fun c => ?_) (fun c => ?_)
  · exact zz_E.weak (k1 c) rfl ⟨rfl, rfl, rfl, trivial⟩
  · exact zz_E.weak (k2 c) rfl ⟨rfl, trivial⟩
theorem mb_327_226 {X : Nat → Option zz_C} {h : zz_H} (hh : 111 ≤ h.length) {s : mS} {d : Nat} {Q : Option Value → zz_H → Prop} {x2 : Int32} (k1 : ¬ x2 = 0 → zz_E zp_P zt_tf zt_fd X d zm_327 234 [] [] (mH h s) Q) (k2 : ¬ ¬ x2 = 0 → zz_E zp_P zt_tf zt_fd X d zm_327 230 [] [] (mH h s) Q) : zz_E zp_P zt_tf zt_fd X d zm_327 226 [(2, .int x2)] [] (mH h s) Q := by
  refine zz_E.n 227 rfl rfl rfl ?_
  refine zz_E.b1 234 230 (A := ¬ x2 = 0) rfl (zz_cond_ne _ _) (by decide) rfl rfl (fun c => ?_) (fun c => ?_)
  · exact zz_E.weak (k1 c) rfl trivial
  · exact zz_E.weak (k2 c) rfl trivial
theorem mb_327_230 {X : Nat → Option zz_C} {h : zz_H} (hh : 111 ≤ h.length) {s : mS} {d : Nat} {Q : Option Value → zz_H → Prop}  (k : zz_E zp_P zt_tf zt_fd X d zm_327 235 [] [.int 1] (mH h s) Q) : zz_E zp_P zt_tf zt_fd X d zm_327 230 [] [] (mH h s) Q := by
  refine zz_E.c 231 (.int 1) rfl rfl rfl rfl ?_
  refine zz_E.n 235 rfl rfl rfl ?_
  exact zz_E.weak k rfl trivial
theorem mb_327_234 {X : Nat → Option zz_C} {h : zz_H} (hh : 111 ≤ h.length) {s : mS} {d : Nat} {Q : Option Value → zz_H → Prop}  (k : zz_E zp_P zt_tf zt_fd X d zm_327 235 [] [.int 0] (mH h s) Q) : zz_E zp_P zt_tf zt_fd X d zm_327 234 [] [] (mH h s) Q := by
  refine zz_E.c 235 (.int 0) rfl rfl rfl rfl ?_
  exact zz_E.weak k rfl trivial
theorem mb_327_235 {X : Nat → Option zz_C} {h : zz_H} (hh : 111 ≤ h.length) {s : mS} {d : Nat} {Q : Option Value → zz_H → Prop} {y0 : Int32} (k : Q (some (.int y0)) (mH h s)) (rb : zz_reti (some .boolean) y0 = true) : zz_E zp_P zt_tf zt_fd X d zm_327 235 [] [.int y0] (mH h s) Q := by
  refine zz_E.ret rfl rfl (if_pos ⟨rfl, rb⟩) ?_
  exact k
theorem mb_327_236 {X : Nat → Option zz_C} {h : zz_H} (hh : 111 ≤ h.length) {s : mS} {d : Nat} {Q : Option Value → zz_H → Prop} {x0 : Int32} {x2 : Int32} {x3 : Int32} (k1 : x0 = 20 → zz_E zp_P zt_tf zt_fd X d zm_327 248 [(2, .int x2)] [] (mH h s) Q) (k2 : ¬ x0 = 20 → zz_E zp_P zt_tf zt_fd X d zm_327 242 [(0, .int x0), (2, .int x2), (3, .int x3)] [] (mH h s) Q) : zz_E zp_P zt_tf zt_fd X d zm_327 236 [(0, .int x0), (2, .int x2), (3, .int x3)] [] (mH h s) Q := by
  refine zz_E.n 237 rfl rfl rfl ?_
  refine zz_E.c 239 (.int 20) rfl rfl rfl rfl ?_
  refine zz_E.b2 248 242 (A := x0 = 20) rfl rfl (by decide) rfl rfl (fun c => ?_) (fun c => ?_)
  · exact zz_E.weak (k1 c) rfl ⟨rfl, trivial⟩
  · exact zz_E.weak (k2 c) rfl ⟨rfl, rfl, rfl, trivial⟩
theorem mb_327_242 {X : Nat → Option zz_C} {h : zz_H} (hh : 111 ≤ h.length) {s : mS} {d : Nat} {Q : Option Value → zz_H → Prop} {x0 : Int32} {x2 : Int32} {x3 : Int32} (k1 : ¬ x0 = 21 → zz_E zp_P zt_tf zt_fd X d zm_327 258 [(0, .int x0), (2, .int x2), (3, .int x3)] [] (mH h s) Q) (k2 : ¬ ¬ x0 = 21 → zz_E zp_P zt_tf zt_fd X d zm_327 248 [(2, .int x2)] [] (mH h s) Q) : zz_E zp_P zt_tf zt_fd X d zm_327 242 [(0, .int x0), (2, .int x2), (3, .int x3)] [] (mH h s) Q := by
  refine zz_E.n 243 rfl rfl rfl ?_
  refine zz_E.c 245 (.int 21) rfl rfl rfl rfl ?_
  refine zz_E.b2 258 248 (A := ¬ x0 = 21) rfl (zz_cond_ne _ _) (by decide) rfl rfl (fun c => ?_) (fun c => ?_)
  · exact zz_E.weak (k1 c) rfl ⟨rfl, rfl, rfl, trivial⟩
  · exact zz_E.weak (k2 c) rfl ⟨rfl, trivial⟩
theorem mb_327_248 {X : Nat → Option zz_C} {h : zz_H} (hh : 111 ≤ h.length) {s : mS} {d : Nat} {Q : Option Value → zz_H → Prop} {x2 : Int32} (k1 : x2 ≤ 0 → zz_E zp_P zt_tf zt_fd X d zm_327 256 [] [] (mH h s) Q) (k2 : ¬ x2 ≤ 0 → zz_E zp_P zt_tf zt_fd X d zm_327 252 [] [] (mH h s) Q) : zz_E zp_P zt_tf zt_fd X d zm_327 248 [(2, .int x2)] [] (mH h s) Q := by
  refine zz_E.n 249 rfl rfl rfl ?_
  refine zz_E.b1 256 252 (A := x2 ≤ 0) rfl rfl (by decide) rfl rfl (fun c => ?_) (fun c => ?_)
  · exact zz_E.weak (k1 c) rfl trivial
  · exact zz_E.weak (k2 c) rfl trivial
theorem mb_327_252 {X : Nat → Option zz_C} {h : zz_H} (hh : 111 ≤ h.length) {s : mS} {d : Nat} {Q : Option Value → zz_H → Prop}  (k : zz_E zp_P zt_tf zt_fd X d zm_327 257 [] [.int 1] (mH h s) Q) : zz_E zp_P zt_tf zt_fd X d zm_327 252 [] [] (mH h s) Q := by
  refine zz_E.c 253 (.int 1) rfl rfl rfl rfl ?_
  refine zz_E.n 257 rfl rfl rfl ?_
  exact zz_E.weak k rfl trivial
theorem mb_327_256 {X : Nat → Option zz_C} {h : zz_H} (hh : 111 ≤ h.length) {s : mS} {d : Nat} {Q : Option Value → zz_H → Prop}  (k : zz_E zp_P zt_tf zt_fd X d zm_327 257 [] [.int 0] (mH h s) Q) : zz_E zp_P zt_tf zt_fd X d zm_327 256 [] [] (mH h s) Q := by
  refine zz_E.c 257 (.int 0) rfl rfl rfl rfl ?_
  exact zz_E.weak k rfl trivial
theorem mb_327_257 {X : Nat → Option zz_C} {h : zz_H} (hh : 111 ≤ h.length) {s : mS} {d : Nat} {Q : Option Value → zz_H → Prop} {y0 : Int32} (k : Q (some (.int y0)) (mH h s)) (rb : zz_reti (some .boolean) y0 = true) : zz_E zp_P zt_tf zt_fd X d zm_327 257 [] [.int y0] (mH h s) Q := by
  refine zz_E.ret rfl rfl (if_pos ⟨rfl, rb⟩) ?_
  exact k
theorem mb_327_258 {X : Nat → Option zz_C} {h : zz_H} (hh : 111 ≤ h.length) {s : mS} {d : Nat} {Q : Option Value → zz_H → Prop} {x0 : Int32} {x2 : Int32} {x3 : Int32} (k1 : ¬ x0 = 24 → zz_E zp_P zt_tf zt_fd X d zm_327 275 [(0, .int x0), (2, .int x2), (3, .int x3)] [] (mH h s) Q) (k2 : ¬ ¬ x0 = 24 → zz_E zp_P zt_tf zt_fd X d zm_327 264 [(2, .int x2)] [] (mH h s) Q) : zz_E zp_P zt_tf zt_fd X d zm_327 258 [(0, .int x0), (2, .int x2), (3, .int x3)] [] (mH h s) Q := by
  refine zz_E.n 259 rfl rfl rfl ?_
  refine zz_E.c 261 (.int 24) rfl rfl rfl rfl ?_
  refine zz_E.b2 275 264 (A := ¬ x0 = 24) rfl (zz_cond_ne _ _) (by decide) rfl rfl (fun c => ?_) (fun c => ?_)
  · exact zz_E.weak (k1 c) rfl ⟨rfl, rfl, rfl, trivial⟩
  · exact zz_E.weak (k2 c) rfl ⟨rfl, trivial⟩
theorem mb_327_264 {X : Nat → Option zz_C} {h : zz_H} (hh : 111 ≤ h.length) {s : mS} {d : Nat} {Q : Option Value → zz_H → Prop} {x2 : Int32} (k1 : 2 ≤ x2 → zz_E zp_P zt_tf zt_fd X d zm_327 273 [] [] (mH h s) Q) (k2 : ¬ 2 ≤ x2 → zz_E zp_P zt_tf zt_fd X d zm_327 269 [] [] (mH h s) Q) : zz_E zp_P zt_tf zt_fd X d zm_327 264 [(2, .int x2)] [] (mH h s) Q := by
  refine zz_E.n 265 rfl rfl rfl ?_
  refine zz_E.c 266 (.int 2) rfl rfl rfl rfl ?_
  refine zz_E.b2 273 269 (A := 2 ≤ x2) rfl rfl (by decide) rfl rfl (fun c => ?_) (fun c => ?_)
  · exact zz_E.weak (k1 c) rfl trivial
  · exact zz_E.weak (k2 c) rfl trivial
theorem mb_327_269 {X : Nat → Option zz_C} {h : zz_H} (hh : 111 ≤ h.length) {s : mS} {d : Nat} {Q : Option Value → zz_H → Prop}  (k : zz_E zp_P zt_tf zt_fd X d zm_327 274 [] [.int 1] (mH h s) Q) : zz_E zp_P zt_tf zt_fd X d zm_327 269 [] [] (mH h s) Q := by
  refine zz_E.c 270 (.int 1) rfl rfl rfl rfl ?_
  refine zz_E.n 274 rfl rfl rfl ?_
  exact zz_E.weak k rfl trivial
theorem mb_327_273 {X : Nat → Option zz_C} {h : zz_H} (hh : 111 ≤ h.length) {s : mS} {d : Nat} {Q : Option Value → zz_H → Prop}  (k : zz_E zp_P zt_tf zt_fd X d zm_327 274 [] [.int 0] (mH h s) Q) : zz_E zp_P zt_tf zt_fd X d zm_327 273 [] [] (mH h s) Q := by
  refine zz_E.c 274 (.int 0) rfl rfl rfl rfl ?_
  exact zz_E.weak k rfl trivial
theorem mb_327_274 {X : Nat → Option zz_C} {h : zz_H} (hh : 111 ≤ h.length) {s : mS} {d : Nat} {Q : Option Value → zz_H → Prop} {y0 : Int32} (k : Q (some (.int y0)) (mH h s)) (rb : zz_reti (some .boolean) y0 = true) : zz_E zp_P zt_tf zt_fd X d zm_327 274 [] [.int y0] (mH h s) Q := by
  refine zz_E.ret rfl rfl (if_pos ⟨rfl, rb⟩) ?_
  exact k
theorem mb_327_275 {X : Nat → Option zz_C} {h : zz_H} (hh : 111 ≤ h.length) {s : mS} {d : Nat} {Q : Option Value → zz_H → Prop} {x0 : Int32} {x2 : Int32} {x3 : Int32} (k1 : ¬ x0 = 19 → zz_E zp_P zt_tf zt_fd X d zm_327 319 [(2, .int x2)] [] (mH h s) Q) (k2 : ¬ ¬ x0 = 19 → zz_E zp_P zt_tf zt_fd X d zm_327 281 [(2, .int x2), (3, .int x3)] [] (mH h s) Q) : zz_E zp_P zt_tf zt_fd X d zm_327 275 [(0, .int x0), (2, .int x2), (3, .int x3)] [] (mH h s) Q := by
  refine zz_E.n 276 rfl rfl rfl ?_
  refine zz_E.c 278 (.int 19) rfl rfl rfl rfl ?_
  refine zz_E.b2 319 281 (A := ¬ x0 = 19) rfl (zz_cond_ne _ _) (by decide) rfl rfl (fun c => ?_) (fun c => ?_)
  · exact zz_E.weak (k1 c) rfl ⟨rfl, trivial⟩
  · exact zz_E.weak (k2 c) rfl ⟨rfl, rfl, trivial⟩
theorem mb_327_281 {X : Nat → Option zz_C} {h : zz_H} (hh : 111 ≤ h.length) {s : mS} {d : Nat} {Q : Option Value → zz_H → Prop} {x2 : Int32} {x3 : Int32} (k1 : x3 = 3 → zz_E zp_P zt_tf zt_fd X d zm_327 313 [] [] (mH h s) Q) (k2 : ¬ x3 = 3 → zz_E zp_P zt_tf zt_fd X d zm_327 286 [(2, .int x2), (3, .int x3)] [] (mH h s) Q) : zz_E zp_P zt_tf zt_fd X d zm_327 281 [(2, .int x2), (3, .int x3)] [] (mH h s) Q := by
  refine zz_E.n 282 rfl rfl rfl ?_
  refine zz_E.c 283 (.int 3) rfl rfl rfl rfl ?_
  refine zz_E.b2 313 286 (A := x3 = 3) rfl rfl (by decide) rfl rfl (fun c => ?_) (fun c => ?_)
  · exact zz_E.weak (k1 c) rfl trivial
  · exact zz_E.weak (k2 c) rfl ⟨rfl, rfl, trivial⟩
theorem mb_327_286 {X : Nat → Option zz_C} {h : zz_H} (hh : 111 ≤ h.length) {s : mS} {d : Nat} {Q : Option Value → zz_H → Prop} {x2 : Int32} {x3 : Int32} (k1 : x2 = 3 → zz_E zp_P zt_tf zt_fd X d zm_327 313 [] [] (mH h s) Q) (k2 : ¬ x2 = 3 → zz_E zp_P zt_tf zt_fd X d zm_327 291 [(2, .int x2), (3, .int x3)] [] (mH h s) Q) : zz_E zp_P zt_tf zt_fd X d zm_327 286 [(2, .int x2), (3, .int x3)] [] (mH h s) Q := by
  refine zz_E.n 287 rfl rfl rfl ?_
  refine zz_E.c 288 (.int 3) rfl rfl rfl rfl ?_
  refine zz_E.b2 313 291 (A := x2 = 3) rfl rfl (by decide) rfl rfl (fun c => ?_) (fun c => ?_)
  · exact zz_E.weak (k1 c) rfl trivial
  · exact zz_E.weak (k2 c) rfl ⟨rfl, rfl, trivial⟩
theorem mb_327_291 {X : Nat → Option zz_C} {h : zz_H} (hh : 111 ≤ h.length) {s : mS} {d : Nat} {Q : Option Value → zz_H → Prop} {x2 : Int32} {x3 : Int32} (k1 : ¬ x3 = 2 → zz_E zp_P zt_tf zt_fd X d zm_327 303 [(2, .int x2), (3, .int x3)] [] (mH h s) Q) (k2 : ¬ ¬ x3 = 2 → zz_E zp_P zt_tf zt_fd X d zm_327 296 [(2, .int x2)] [] (mH h s) Q) : zz_E zp_P zt_tf zt_fd X d zm_327 291 [(2, .int x2), (3, .int x3)] [] (mH h s) Q := by
  refine zz_E.n 292 rfl rfl rfl ?_
  refine zz_E.c 293 (.int 2) rfl rfl rfl rfl ?_
  refine zz_E.b2 303 296 (A := ¬ x3 = 2) rfl (zz_cond_ne _ _) (by decide) rfl rfl (fun c => ?_) (fun c => ?_)
  · exact zz_E.weak (k1 c) rfl ⟨rfl, rfl, trivial⟩
  · exact zz_E.weak (k2 c) rfl ⟨rfl, trivial⟩
theorem mb_327_296 {X : Nat → Option zz_C} {h : zz_H} (hh : 111 ≤ h.length) {s : mS} {d : Nat} {Q : Option Value → zz_H → Prop} {x2 : Int32} (k1 : x2 ≤ 0 → zz_E zp_P zt_tf zt_fd X d zm_327 317 [] [] (mH h s) Q) (k2 : ¬ x2 ≤ 0 → zz_E zp_P zt_tf zt_fd X d zm_327 300 [] [] (mH h s) Q) : zz_E zp_P zt_tf zt_fd X d zm_327 296 [(2, .int x2)] [] (mH h s) Q := by
  refine zz_E.n 297 rfl rfl rfl ?_
  refine zz_E.b1 317 300 (A := x2 ≤ 0) rfl rfl (by decide) rfl rfl (fun c => ?_) (fun c => ?_)
  · exact zz_E.weak (k1 c) rfl trivial
  · exact zz_E.weak (k2 c) rfl trivial
theorem mb_327_300 {X : Nat → Option zz_C} {h : zz_H} (hh : 111 ≤ h.length) {s : mS} {d : Nat} {Q : Option Value → zz_H → Prop}  (k : zz_E zp_P zt_tf zt_fd X d zm_327 313 [] [] (mH h s) Q) : zz_E zp_P zt_tf zt_fd X d zm_327 300 [] [] (mH h s) Q := by
  refine zz_E.n 313 rfl rfl rfl ?_
  exact zz_E.weak k rfl trivial
theorem mb_327_303 {X : Nat → Option zz_C} {h : zz_H} (hh : 111 ≤ h.length) {s : mS} {d : Nat} {Q : Option Value → zz_H → Prop} {x2 : Int32} {x3 : Int32} (k1 : ¬ x2 = 2 → zz_E zp_P zt_tf zt_fd X d zm_327 313 [] [] (mH h s) Q) (k2 : ¬ ¬ x2 = 2 → zz_E zp_P zt_tf zt_fd X d zm_327 308 [(3, .int x3)] [] (mH h s) Q) : zz_E zp_P zt_tf zt_fd X d zm_327 303 [(2, .int x2), (3, .int x3)] [] (mH h s) Q := by
  refine zz_E.n 304 rfl rfl rfl ?_
  refine zz_E.c 305 (.int 2) rfl rfl rfl rfl ?_
  refine zz_E.b2 313 308 (A := ¬ x2 = 2) rfl (zz_cond_ne _ _) (by decide) rfl rfl (fun c => ?_) (fun c => ?_)
  · exact zz_E.weak (k1 c) rfl trivial
  · exact zz_E.weak (k2 c) rfl ⟨rfl, trivial⟩
theorem mb_327_308 {X : Nat → Option zz_C} {h : zz_H} (hh : 111 ≤ h.length) {s : mS} {d : Nat} {Q : Option Value → zz_H → Prop} {x3 : Int32} (k1 : ¬ x3 = 1 → zz_E zp_P zt_tf zt_fd X d zm_327 317 [] [] (mH h s) Q) (k2 : ¬ ¬ x3 = 1 → zz_E zp_P zt_tf zt_fd X d zm_327 313 [] [] (mH h s) Q) : zz_E zp_P zt_tf zt_fd X d zm_327 308 [(3, .int x3)] [] (mH h s) Q := by
  refine zz_E.n 309 rfl rfl rfl ?_
  refine zz_E.c 310 (.int 1) rfl rfl rfl rfl ?_
  refine zz_E.b2 317 313 (A := ¬ x3 = 1) rfl (zz_cond_ne _ _) (by decide) rfl rfl (fun c => ?_) (fun c => ?_)
  · exact zz_E.weak (k1 c) rfl trivial
  · exact zz_E.weak (k2 c) rfl trivial
theorem mb_327_313 {X : Nat → Option zz_C} {h : zz_H} (hh : 111 ≤ h.length) {s : mS} {d : Nat} {Q : Option Value → zz_H → Prop}  (k : zz_E zp_P zt_tf zt_fd X d zm_327 318 [] [.int 1] (mH h s) Q) : zz_E zp_P zt_tf zt_fd X d zm_327 313 [] [] (mH h s) Q := by
  refine zz_E.c 314 (.int 1) rfl rfl rfl rfl ?_
  refine zz_E.n 318 rfl rfl rfl ?_
  exact zz_E.weak k rfl trivial
theorem mb_327_317 {X : Nat → Option zz_C} {h : zz_H} (hh : 111 ≤ h.length) {s : mS} {d : Nat} {Q : Option Value → zz_H → Prop}  (k : zz_E zp_P zt_tf zt_fd X d zm_327 318 [] [.int 0] (mH h s) Q) : zz_E zp_P zt_tf zt_fd X d zm_327 317 [] [] (mH h s) Q := by
  refine zz_E.c 318 (.int 0) rfl rfl rfl rfl ?_
  exact zz_E.weak k rfl trivial
theorem mb_327_318 {X : Nat → Option zz_C} {h : zz_H} (hh : 111 ≤ h.length) {s : mS} {d : Nat} {Q : Option Value → zz_H → Prop} {y0 : Int32} (k : Q (some (.int y0)) (mH h s)) (rb : zz_reti (some .boolean) y0 = true) : zz_E zp_P zt_tf zt_fd X d zm_327 318 [] [.int y0] (mH h s) Q := by
  refine zz_E.ret rfl rfl (if_pos ⟨rfl, rb⟩) ?_
  exact k
theorem mb_327_319 {X : Nat → Option zz_C} {h : zz_H} (hh : 111 ≤ h.length) {s : mS} {d : Nat} {Q : Option Value → zz_H → Prop} {x2 : Int32} (k1 : ¬ x2 = 1 → zz_E zp_P zt_tf zt_fd X d zm_327 328 [] [] (mH h s) Q) (k2 : ¬ ¬ x2 = 1 → zz_E zp_P zt_tf zt_fd X d zm_327 324 [] [] (mH h s) Q) : zz_E zp_P zt_tf zt_fd X d zm_327 319 [(2, .int x2)] [] (mH h s) Q := by
  refine zz_E.n 320 rfl rfl rfl ?_
  refine zz_E.c 321 (.int 1) rfl rfl rfl rfl ?_
  refine zz_E.b2 328 324 (A := ¬ x2 = 1) rfl (zz_cond_ne _ _) (by decide) rfl rfl (fun c => ?_) (fun c => ?_)
  · exact zz_E.weak (k1 c) rfl trivial
  · exact zz_E.weak (k2 c) rfl trivial
theorem mb_327_324 {X : Nat → Option zz_C} {h : zz_H} (hh : 111 ≤ h.length) {s : mS} {d : Nat} {Q : Option Value → zz_H → Prop}  (k : zz_E zp_P zt_tf zt_fd X d zm_327 329 [] [.int 1] (mH h s) Q) : zz_E zp_P zt_tf zt_fd X d zm_327 324 [] [] (mH h s) Q := by
  refine zz_E.c 325 (.int 1) rfl rfl rfl rfl ?_
  refine zz_E.n 329 rfl rfl rfl ?_
  exact zz_E.weak k rfl trivial
theorem mb_327_328 {X : Nat → Option zz_C} {h : zz_H} (hh : 111 ≤ h.length) {s : mS} {d : Nat} {Q : Option Value → zz_H → Prop}  (k : zz_E zp_P zt_tf zt_fd X d zm_327 329 [] [.int 0] (mH h s) Q) : zz_E zp_P zt_tf zt_fd X d zm_327 328 [] [] (mH h s) Q := by
  refine zz_E.c 329 (.int 0) rfl rfl rfl rfl ?_
  exact zz_E.weak k rfl trivial
theorem mb_327_329 {X : Nat → Option zz_C} {h : zz_H} (hh : 111 ≤ h.length) {s : mS} {d : Nat} {Q : Option Value → zz_H → Prop} {y0 : Int32} (k : Q (some (.int y0)) (mH h s)) (rb : zz_reti (some .boolean) y0 = true) : zz_E zp_P zt_tf zt_fd X d zm_327 329 [] [.int y0] (mH h s) Q := by
  refine zz_E.ret rfl rfl (if_pos ⟨rfl, rb⟩) ?_
  exact k
def mf_327_17 (N : Nat)  (s : mS) : mO := some (s, (some (.int 1)))
theorem mr_327_17 {X : Nat → Option zz_C} {h : zz_H} (hh : 111 ≤ h.length) {d : Nat} {N : Nat} {Q : Option Value → zz_H → Prop}  {s s' : mS} {v : Option Value} (hf : mf_327_17 N  s = some (s', v)) (k : Q v (mH h s')) : zz_E zp_P zt_tf zt_fd X (d + 0) zm_327 17 [] [] (mH h s) Q := by
  unfold mf_327_17 at hf
  cases hf
  exact mb_327_17 hh  k
def mf_327_235 (N : Nat) (y0 : Int32) (s : mS) : mO := if zz_reti (some .boolean) y0 = true then some (s, (some (.int y0))) else none
theorem mr_327_235 {X : Nat → Option zz_C} {h : zz_H} (hh : 111 ≤ h.length) {d : Nat} {N : Nat} {Q : Option Value → zz_H → Prop} {y0 : Int32} {s s' : mS} {v : Option Value} (hf : mf_327_235 N y0 s = some (s', v)) (k : Q v (mH h s')) : zz_E zp_P zt_tf zt_fd X (d + 0) zm_327 235 [] [.int y0] (mH h s) Q := by
  unfold mf_327_235 at hf
  obtain ⟨rb, hf⟩ := mo_if hf
  cases hf
  exact mb_327_235 hh  k rb
def mf_327_234 (N : Nat)  (s : mS) : mO := mf_327_235 N 0 s
theorem mr_327_234 {X : Nat → Option zz_C} {h : zz_H} (hh : 111 ≤ h.length) {d : Nat} {N : Nat} {Q : Option Value → zz_H → Prop}  {s s' : mS} {v : Option Value} (hf : mf_327_234 N  s = some (s', v)) (k : Q v (mH h s')) : zz_E zp_P zt_tf zt_fd X (d + 0) zm_327 234 [] [] (mH h s) Q := by
  unfold mf_327_234 at hf
  exact mb_327_234 hh  (mr_327_235 hh hf k)
def mf_327_230 (N : Nat)  (s : mS) : mO := mf_327_235 N 1 s
theorem mr_327_230 {X : Nat → Option zz_C} {h : zz_H} (hh : 111 ≤ h.length) {d : Nat} {N : Nat} {Q : Option Value → zz_H → Prop}  {s s' : mS} {v : Option Value} (hf : mf_327_230 N  s = some (s', v)) (k : Q v (mH h s')) : zz_E zp_P zt_tf zt_fd X (d + 0) zm_327 230 [] [] (mH h s) Q := by
  unfold mf_327_230 at hf
  exact mb_327_230 hh  (mr_327_235 hh hf k)
def mf_327_226 (N : Nat) (x2 : Int32) (s : mS) : mO := if ¬ x2 = 0 then mf_327_234 N  s else mf_327_230 N  s
theorem mr_327_226 {X : Nat → Option zz_C} {h : zz_H} (hh : 111 ≤ h.length) {d : Nat} {N : Nat} {Q : Option Value → zz_H → Prop} {x2 : Int32} {s s' : mS} {v : Option Value} (hf : mf_327_226 N x2 s = some (s', v)) (k : Q v (mH h s')) : zz_E zp_P zt_tf zt_fd X (d + 0) zm_327 226 [(2, .int x2)] [] (mH h s) Q := by
  unfold mf_327_226 at hf
  refine mb_327_226 hh  (fun c => ?_) (fun c => ?_)
  · rw [if_pos c] at hf
    exact mr_327_234 hh hf k
  · rw [if_neg c] at hf
    exact mr_327_230 hh hf k
def mf_327_257 (N : Nat) (y0 : Int32) (s : mS) : mO := if zz_reti (some .boolean) y0 = true then some (s, (some (.int y0))) else none
theorem mr_327_257 {X : Nat → Option zz_C} {h : zz_H} (hh : 111 ≤ h.length) {d : Nat} {N : Nat} {Q : Option Value → zz_H → Prop} {y0 : Int32} {s s' : mS} {v : Option Value} (hf : mf_327_257 N y0 s = some (s', v)) (k : Q v (mH h s')) : zz_E zp_P zt_tf zt_fd X (d + 0) zm_327 257 [] [.int y0] (mH h s) Q := by
  unfold mf_327_257 at hf
  obtain ⟨rb, hf⟩ := mo_if hf
  cases hf
  exact mb_327_257 hh  k rb
def mf_327_256 (N : Nat)  (s : mS) : mO := mf_327_257 N 0 s
theorem mr_327_256 {X : Nat → Option zz_C} {h : zz_H} (hh : 111 ≤ h.length) {d : Nat} {N : Nat} {Q : Option Value → zz_H → Prop}  {s s' : mS} {v : Option Value} (hf : mf_327_256 N  s = some (s', v)) (k : Q v (mH h s')) : zz_E zp_P zt_tf zt_fd X (d + 0) zm_327 256 [] [] (mH h s) Q := by
  unfold mf_327_256 at hf
  exact mb_327_256 hh  (mr_327_257 hh hf k)
def mf_327_252 (N : Nat)  (s : mS) : mO := mf_327_257 N 1 s
theorem mr_327_252 {X : Nat → Option zz_C} {h : zz_H} (hh : 111 ≤ h.length) {d : Nat} {N : Nat} {Q : Option Value → zz_H → Prop}  {s s' : mS} {v : Option Value} (hf : mf_327_252 N  s = some (s', v)) (k : Q v (mH h s')) : zz_E zp_P zt_tf zt_fd X (d + 0) zm_327 252 [] [] (mH h s) Q := by
  unfold mf_327_252 at hf
  exact mb_327_252 hh  (mr_327_257 hh hf k)
def mf_327_248 (N : Nat) (x2 : Int32) (s : mS) : mO := if x2 ≤ 0 then mf_327_256 N  s else mf_327_252 N  s
theorem mr_327_248 {X : Nat → Option zz_C} {h : zz_H} (hh : 111 ≤ h.length) {d : Nat} {N : Nat} {Q : Option Value → zz_H → Prop} {x2 : Int32} {s s' : mS} {v : Option Value} (hf : mf_327_248 N x2 s = some (s', v)) (k : Q v (mH h s')) : zz_E zp_P zt_tf zt_fd X (d + 0) zm_327 248 [(2, .int x2)] [] (mH h s) Q := by
  unfold mf_327_248 at hf
  refine mb_327_248 hh  (fun c => ?_) (fun c => ?_)
  · rw [if_pos c] at hf
    exact mr_327_256 hh hf k
  · rw [if_neg c] at hf
    exact mr_327_252 hh hf k
def mf_327_329 (N : Nat) (y0 : Int32) (s : mS) : mO := if zz_reti (some .boolean) y0 = true then some (s, (some (.int y0))) else none
theorem mr_327_329 {X : Nat → Option zz_C} {h : zz_H} (hh : 111 ≤ h.length) {d : Nat} {N : Nat} {Q : Option Value → zz_H → Prop} {y0 : Int32} {s s' : mS} {v : Option Value} (hf : mf_327_329 N y0 s = some (s', v)) (k : Q v (mH h s')) : zz_E zp_P zt_tf zt_fd X (d + 0) zm_327 329 [] [.int y0] (mH h s) Q := by
  unfold mf_327_329 at hf
  obtain ⟨rb, hf⟩ := mo_if hf
  cases hf
  exact mb_327_329 hh  k rb
def mf_327_328 (N : Nat)  (s : mS) : mO := mf_327_329 N 0 s
theorem mr_327_328 {X : Nat → Option zz_C} {h : zz_H} (hh : 111 ≤ h.length) {d : Nat} {N : Nat} {Q : Option Value → zz_H → Prop}  {s s' : mS} {v : Option Value} (hf : mf_327_328 N  s = some (s', v)) (k : Q v (mH h s')) : zz_E zp_P zt_tf zt_fd X (d + 0) zm_327 328 [] [] (mH h s) Q := by
  unfold mf_327_328 at hf
  exact mb_327_328 hh  (mr_327_329 hh hf k)
def mf_327_324 (N : Nat)  (s : mS) : mO := mf_327_329 N 1 s
theorem mr_327_324 {X : Nat → Option zz_C} {h : zz_H} (hh : 111 ≤ h.length) {d : Nat} {N : Nat} {Q : Option Value → zz_H → Prop}  {s s' : mS} {v : Option Value} (hf : mf_327_324 N  s = some (s', v)) (k : Q v (mH h s')) : zz_E zp_P zt_tf zt_fd X (d + 0) zm_327 324 [] [] (mH h s) Q := by
  unfold mf_327_324 at hf
  exact mb_327_324 hh  (mr_327_329 hh hf k)
def mf_327_319 (N : Nat) (x2 : Int32) (s : mS) : mO := if ¬ x2 = 1 then mf_327_328 N  s else mf_327_324 N  s
theorem mr_327_319 {X : Nat → Option zz_C} {h : zz_H} (hh : 111 ≤ h.length) {d : Nat} {N : Nat} {Q : Option Value → zz_H → Prop} {x2 : Int32} {s s' : mS} {v : Option Value} (hf : mf_327_319 N x2 s = some (s', v)) (k : Q v (mH h s')) : zz_E zp_P zt_tf zt_fd X (d + 0) zm_327 319 [(2, .int x2)] [] (mH h s) Q := by
  unfold mf_327_319 at hf
  refine mb_327_319 hh  (fun c => ?_) (fun c => ?_)
  · rw [if_pos c] at hf
    exact mr_327_328 hh hf k
  · rw [if_neg c] at hf
    exact mr_327_324 hh hf k
def mf_327_318 (N : Nat) (y0 : Int32) (s : mS) : mO := if zz_reti (some .boolean) y0 = true then some (s, (some (.int y0))) else none
theorem mr_327_318 {X : Nat → Option zz_C} {h : zz_H} (hh : 111 ≤ h.length) {d : Nat} {N : Nat} {Q : Option Value → zz_H → Prop} {y0 : Int32} {s s' : mS} {v : Option Value} (hf : mf_327_318 N y0 s = some (s', v)) (k : Q v (mH h s')) : zz_E zp_P zt_tf zt_fd X (d + 0) zm_327 318 [] [.int y0] (mH h s) Q := by
  unfold mf_327_318 at hf
  obtain ⟨rb, hf⟩ := mo_if hf
  cases hf
  exact mb_327_318 hh  k rb
def mf_327_313 (N : Nat)  (s : mS) : mO := mf_327_318 N 1 s
theorem mr_327_313 {X : Nat → Option zz_C} {h : zz_H} (hh : 111 ≤ h.length) {d : Nat} {N : Nat} {Q : Option Value → zz_H → Prop}  {s s' : mS} {v : Option Value} (hf : mf_327_313 N  s = some (s', v)) (k : Q v (mH h s')) : zz_E zp_P zt_tf zt_fd X (d + 0) zm_327 313 [] [] (mH h s) Q := by
  unfold mf_327_313 at hf
  exact mb_327_313 hh  (mr_327_318 hh hf k)
def mf_327_317 (N : Nat)  (s : mS) : mO := mf_327_318 N 0 s
theorem mr_327_317 {X : Nat → Option zz_C} {h : zz_H} (hh : 111 ≤ h.length) {d : Nat} {N : Nat} {Q : Option Value → zz_H → Prop}  {s s' : mS} {v : Option Value} (hf : mf_327_317 N  s = some (s', v)) (k : Q v (mH h s')) : zz_E zp_P zt_tf zt_fd X (d + 0) zm_327 317 [] [] (mH h s) Q := by
  unfold mf_327_317 at hf
  exact mb_327_317 hh  (mr_327_318 hh hf k)
def mf_327_308 (N : Nat) (x3 : Int32) (s : mS) : mO := if ¬ x3 = 1 then mf_327_317 N  s else mf_327_313 N  s
theorem mr_327_308 {X : Nat → Option zz_C} {h : zz_H} (hh : 111 ≤ h.length) {d : Nat} {N : Nat} {Q : Option Value → zz_H → Prop} {x3 : Int32} {s s' : mS} {v : Option Value} (hf : mf_327_308 N x3 s = some (s', v)) (k : Q v (mH h s')) : zz_E zp_P zt_tf zt_fd X (d + 0) zm_327 308 [(3, .int x3)] [] (mH h s) Q := by
  unfold mf_327_308 at hf
  refine mb_327_308 hh  (fun c => ?_) (fun c => ?_)
  · rw [if_pos c] at hf
    exact mr_327_317 hh hf k
  · rw [if_neg c] at hf
    exact mr_327_313 hh hf k
def mf_327_303 (N : Nat) (x2 : Int32) (x3 : Int32) (s : mS) : mO := if ¬ x2 = 2 then mf_327_313 N  s else mf_327_308 N x3 s
theorem mr_327_303 {X : Nat → Option zz_C} {h : zz_H} (hh : 111 ≤ h.length) {d : Nat} {N : Nat} {Q : Option Value → zz_H → Prop} {x2 : Int32} {x3 : Int32} {s s' : mS} {v : Option Value} (hf : mf_327_303 N x2 x3 s = some (s', v)) (k : Q v (mH h s')) : zz_E zp_P zt_tf zt_fd X (d + 0) zm_327 303 [(2, .int x2), (3, .int x3)] [] (mH h s) Q := by
  unfold mf_327_303 at hf
  refine mb_327_303 hh  (fun c => ?_) (fun c => ?_)
  · rw [if_pos c] at hf
    exact mr_327_313 hh hf k
  · rw [if_neg c] at hf
    exact mr_327_308 hh hf k
def mf_327_300 (N : Nat)  (s : mS) : mO := mf_327_313 N  s
theorem mr_327_300 {X : Nat → Option zz_C} {h : zz_H} (hh : 111 ≤ h.length) {d : Nat} {N : Nat} {Q : Option Value → zz_H → Prop}  {s s' : mS} {v : Option Value} (hf : mf_327_300 N  s = some (s', v)) (k : Q v (mH h s')) : zz_E zp_P zt_tf zt_fd X (d + 0) zm_327 300 [] [] (mH h s) Q := by
  unfold mf_327_300 at hf
  exact mb_327_300 hh  (mr_327_313 hh hf k)
def mf_327_296 (N : Nat) (x2 : Int32) (s : mS) : mO := if x2 ≤ 0 then mf_327_317 N  s else mf_327_300 N  s
theorem mr_327_296 {X : Nat → Option zz_C} {h : zz_H} (hh : 111 ≤ h.length) {d : Nat} {N : Nat} {Q : Option Value → zz_H → Prop} {x2 : Int32} {s s' : mS} {v : Option Value} (hf : mf_327_296 N x2 s = some (s', v)) (k : Q v (mH h s')) : zz_E zp_P zt_tf zt_fd X (d + 0) zm_327 296 [(2, .int x2)] [] (mH h s) Q := by
  unfold mf_327_296 at hf
  refine mb_327_296 hh  (fun c => ?_) (fun c => ?_)
  · rw [if_pos c] at hf
    exact mr_327_317 hh hf k
  · rw [if_neg c] at hf
    exact mr_327_300 hh hf k
def mf_327_291 (N : Nat) (x2 : Int32) (x3 : Int32) (s : mS) : mO := if ¬ x3 = 2 then mf_327_303 N x2 x3 s else mf_327_296 N x2 s
theorem mr_327_291 {X : Nat → Option zz_C} {h : zz_H} (hh : 111 ≤ h.length) {d : Nat} {N : Nat} {Q : Option Value → zz_H → Prop} {x2 : Int32} {x3 : Int32} {s s' : mS} {v : Option Value} (hf : mf_327_291 N x2 x3 s = some (s', v)) (k : Q v (mH h s')) : zz_E zp_P zt_tf zt_fd X (d + 0) zm_327 291 [(2, .int x2), (3, .int x3)] [] (mH h s) Q := by
  unfold mf_327_291 at hf
  refine mb_327_291 hh  (fun c => ?_) (fun c => ?_)
  · rw [if_pos c] at hf
    exact mr_327_303 hh hf k
  · rw [if_neg c] at hf
    exact mr_327_296 hh hf k
def mf_327_286 (N : Nat) (x2 : Int32) (x3 : Int32) (s : mS) : mO := if x2 = 3 then mf_327_313 N  s else mf_327_291 N x2 x3 s
theorem mr_327_286 {X : Nat → Option zz_C} {h : zz_H} (hh : 111 ≤ h.length) {d : Nat} {N : Nat} {Q : Option Value → zz_H → Prop} {x2 : Int32} {x3 : Int32} {s s' : mS} {v : Option Value} (hf : mf_327_286 N x2 x3 s = some (s', v)) (k : Q v (mH h s')) : zz_E zp_P zt_tf zt_fd X (d + 0) zm_327 286 [(2, .int x2), (3, .int x3)] [] (mH h s) Q := by
  unfold mf_327_286 at hf
  refine mb_327_286 hh  (fun c => ?_) (fun c => ?_)
  · rw [if_pos c] at hf
    exact mr_327_313 hh hf k
  · rw [if_neg c] at hf
    exact mr_327_291 hh hf k
def mf_327_281 (N : Nat) (x2 : Int32) (x3 : Int32) (s : mS) : mO := if x3 = 3 then mf_327_313 N  s else mf_327_286 N x2 x3 s
theorem mr_327_281 {X : Nat → Option zz_C} {h : zz_H} (hh : 111 ≤ h.length) {d : Nat} {N : Nat} {Q : Option Value → zz_H → Prop} {x2 : Int32} {x3 : Int32} {s s' : mS} {v : Option Value} (hf : mf_327_281 N x2 x3 s = some (s', v)) (k : Q v (mH h s')) : zz_E zp_P zt_tf zt_fd X (d + 0) zm_327 281 [(2, .int x2), (3, .int x3)] [] (mH h s) Q := by
  unfold mf_327_281 at hf
  refine mb_327_281 hh  (fun c => ?_) (fun c => ?_)
  · rw [if_pos c] at hf
    exact mr_327_313 hh hf k
  · rw [if_neg c] at hf
    exact mr_327_286 hh hf k
def mf_327_275 (N : Nat) (x0 : Int32) (x2 : Int32) (x3 : Int32) (s : mS) : mO := if ¬ x0 = 19 then mf_327_319 N x2 s else mf_327_281 N x2 x3 s
theorem mr_327_275 {X : Nat → Option zz_C} {h : zz_H} (hh : 111 ≤ h.length) {d : Nat} {N : Nat} {Q : Option Value → zz_H → Prop} {x0 : Int32} {x2 : Int32} {x3 : Int32} {s s' : mS} {v : Option Value} (hf : mf_327_275 N x0 x2 x3 s = some (s', v)) (k : Q v (mH h s')) : zz_E zp_P zt_tf zt_fd X (d + 0) zm_327 275 [(0, .int x0), (2, .int x2), (3, .int x3)] [] (mH h s) Q := by
  unfold mf_327_275 at hf
  refine mb_327_275 hh  (fun c => ?_) (fun c => ?_)
  · rw [if_pos c] at hf
    exact mr_327_319 hh hf k
  · rw [if_neg c] at hf
    exact mr_327_281 hh hf k
def mf_327_274 (N : Nat) (y0 : Int32) (s : mS) : mO := if zz_reti (some .boolean) y0 = true then some (s, (some (.int y0))) else none
theorem mr_327_274 {X : Nat → Option zz_C} {h : zz_H} (hh : 111 ≤ h.length) {d : Nat} {N : Nat} {Q : Option Value → zz_H → Prop} {y0 : Int32} {s s' : mS} {v : Option Value} (hf : mf_327_274 N y0 s = some (s', v)) (k : Q v (mH h s')) : zz_E zp_P zt_tf zt_fd X (d + 0) zm_327 274 [] [.int y0] (mH h s) Q := by
  unfold mf_327_274 at hf
  obtain ⟨rb, hf⟩ := mo_if hf
  cases hf
  exact mb_327_274 hh  k rb
def mf_327_273 (N : Nat)  (s : mS) : mO := mf_327_274 N 0 s
theorem mr_327_273 {X : Nat → Option zz_C} {h : zz_H} (hh : 111 ≤ h.length) {d : Nat} {N : Nat} {Q : Option Value → zz_H → Prop}  {s s' : mS} {v : Option Value} (hf : mf_327_273 N  s = some (s', v)) (k : Q v (mH h s')) : zz_E zp_P zt_tf zt_fd X (d + 0) zm_327 273 [] [] (mH h s) Q := by
  unfold mf_327_273 at hf
  exact mb_327_273 hh  (mr_327_274 hh hf k)
def mf_327_269 (N : Nat)  (s : mS) : mO := mf_327_274 N 1 s
theorem mr_327_269 {X : Nat → Option zz_C} {h : zz_H} (hh : 111 ≤ h.length) {d : Nat} {N : Nat} {Q : Option Value → zz_H → Prop}  {s s' : mS} {v : Option Value} (hf : mf_327_269 N  s = some (s', v)) (k : Q v (mH h s')) : zz_E zp_P zt_tf zt_fd X (d + 0) zm_327 269 [] [] (mH h s) Q := by
  unfold mf_327_269 at hf
  exact mb_327_269 hh  (mr_327_274 hh hf k)
def mf_327_264 (N : Nat) (x2 : Int32) (s : mS) : mO := if 2 ≤ x2 then mf_327_273 N  s else mf_327_269 N  s
theorem mr_327_264 {X : Nat → Option zz_C} {h : zz_H} (hh : 111 ≤ h.length) {d : Nat} {N : Nat} {Q : Option Value → zz_H → Prop} {x2 : Int32} {s s' : mS} {v : Option Value} (hf : mf_327_264 N x2 s = some (s', v)) (k : Q v (mH h s')) : zz_E zp_P zt_tf zt_fd X (d + 0) zm_327 264 [(2, .int x2)] [] (mH h s) Q := by
  unfold mf_327_264 at hf
  refine mb_327_264 hh  (fun c => ?_) (fun c => ?_)
  · rw [if_pos c] at hf
    exact mr_327_273 hh hf k
  · rw [if_neg c] at hf
    exact mr_327_269 hh hf k
def mf_327_258 (N : Nat) (x0 : Int32) (x2 : Int32) (x3 : Int32) (s : mS) : mO := if ¬ x0 = 24 then mf_327_275 N x0 x2 x3 s else mf_327_264 N x2 s
theorem mr_327_258 {X : Nat → Option zz_C} {h : zz_H} (hh : 111 ≤ h.length) {d : Nat} {N : Nat} {Q : Option Value → zz_H → Prop} {x0 : Int32} {x2 : Int32} {x3 : Int32} {s s' : mS} {v : Option Value} (hf : mf_327_258 N x0 x2 x3 s = some (s', v)) (k : Q v (mH h s')) : zz_E zp_P zt_tf zt_fd X (d + 0) zm_327 258 [(0, .int x0), (2, .int x2), (3, .int x3)] [] (mH h s) Q := by
  unfold mf_327_258 at hf
  refine mb_327_258 hh  (fun c => ?_) (fun c => ?_)
  · rw [if_pos c] at hf
    exact mr_327_275 hh hf k
  · rw [if_neg c] at hf
    exact mr_327_264 hh hf k
def mf_327_242 (N : Nat) (x0 : Int32) (x2 : Int32) (x3 : Int32) (s : mS) : mO := if ¬ x0 = 21 then mf_327_258 N x0 x2 x3 s else mf_327_248 N x2 s
theorem mr_327_242 {X : Nat → Option zz_C} {h : zz_H} (hh : 111 ≤ h.length) {d : Nat} {N : Nat} {Q : Option Value → zz_H → Prop} {x0 : Int32} {x2 : Int32} {x3 : Int32} {s s' : mS} {v : Option Value} (hf : mf_327_242 N x0 x2 x3 s = some (s', v)) (k : Q v (mH h s')) : zz_E zp_P zt_tf zt_fd X (d + 0) zm_327 242 [(0, .int x0), (2, .int x2), (3, .int x3)] [] (mH h s) Q := by
  unfold mf_327_242 at hf
  refine mb_327_242 hh  (fun c => ?_) (fun c => ?_)
  · rw [if_pos c] at hf
    exact mr_327_258 hh hf k
  · rw [if_neg c] at hf
    exact mr_327_248 hh hf k
def mf_327_236 (N : Nat) (x0 : Int32) (x2 : Int32) (x3 : Int32) (s : mS) : mO := if x0 = 20 then mf_327_248 N x2 s else mf_327_242 N x0 x2 x3 s
theorem mr_327_236 {X : Nat → Option zz_C} {h : zz_H} (hh : 111 ≤ h.length) {d : Nat} {N : Nat} {Q : Option Value → zz_H → Prop} {x0 : Int32} {x2 : Int32} {x3 : Int32} {s s' : mS} {v : Option Value} (hf : mf_327_236 N x0 x2 x3 s = some (s', v)) (k : Q v (mH h s')) : zz_E zp_P zt_tf zt_fd X (d + 0) zm_327 236 [(0, .int x0), (2, .int x2), (3, .int x3)] [] (mH h s) Q := by
  unfold mf_327_236 at hf
  refine mb_327_236 hh  (fun c => ?_) (fun c => ?_)
  · rw [if_pos c] at hf
    exact mr_327_248 hh hf k
  · rw [if_neg c] at hf
    exact mr_327_242 hh hf k
def mf_327_220 (N : Nat) (x0 : Int32) (x2 : Int32) (x3 : Int32) (s : mS) : mO := if ¬ x0 = 25 then mf_327_236 N x0 x2 x3 s else mf_327_226 N x2 s
theorem mr_327_220 {X : Nat → Option zz_C} {h : zz_H} (hh : 111 ≤ h.length) {d : Nat} {N : Nat} {Q : Option Value → zz_H → Prop} {x0 : Int32} {x2 : Int32} {x3 : Int32} {s s' : mS} {v : Option Value} (hf : mf_327_220 N x0 x2 x3 s = some (s', v)) (k : Q v (mH h s')) : zz_E zp_P zt_tf zt_fd X (d + 0) zm_327 220 [(0, .int x0), (2, .int x2), (3, .int x3)] [] (mH h s) Q := by
  unfold mf_327_220 at hf
  refine mb_327_220 hh  (fun c => ?_) (fun c => ?_)
  · rw [if_pos c] at hf
    exact mr_327_236 hh hf k
  · rw [if_neg c] at hf
    exact mr_327_226 hh hf k
def mf_327_215 (N : Nat) (x0 : Int32) (x2 : Int32) (x3 : Int32) (s : mS) : mO := if x0 = 3 then mf_327_226 N x2 s else mf_327_220 N x0 x2 x3 s
theorem mr_327_215 {X : Nat → Option zz_C} {h : zz_H} (hh : 111 ≤ h.length) {d : Nat} {N : Nat} {Q : Option Value → zz_H → Prop} {x0 : Int32} {x2 : Int32} {x3 : Int32} {s s' : mS} {v : Option Value} (hf : mf_327_215 N x0 x2 x3 s = some (s', v)) (k : Q v (mH h s')) : zz_E zp_P zt_tf zt_fd X (d + 0) zm_327 215 [(0, .int x0), (2, .int x2), (3, .int x3)] [] (mH h s) Q := by
  unfold mf_327_215 at hf
  refine mb_327_215 hh  (fun c => ?_) (fun c => ?_)
  · rw [if_pos c] at hf
    exact mr_327_226 hh hf k
  · rw [if_neg c] at hf
    exact mr_327_220 hh hf k
def mf_327_49 (N : Nat) (y0 : Int32) (s : mS) : mO := if zz_reti (some .boolean) y0 = true then some (s, (some (.int y0))) else none
theorem mr_327_49 {X : Nat → Option zz_C} {h : zz_H} (hh : 111 ≤ h.length) {d : Nat} {N : Nat} {Q : Option Value → zz_H → Prop} {y0 : Int32} {s s' : mS} {v : Option Value} (hf : mf_327_49 N y0 s = some (s', v)) (k : Q v (mH h s')) : zz_E zp_P zt_tf zt_fd X (d + 0) zm_327 49 [] [.int y0] (mH h s) Q := by
  unfold mf_327_49 at hf
  obtain ⟨rb, hf⟩ := mo_if hf
  cases hf
  exact mb_327_49 hh  k rb
def mf_327_48 (N : Nat)  (s : mS) : mO := mf_327_49 N 0 s
theorem mr_327_48 {X : Nat → Option zz_C} {h : zz_H} (hh : 111 ≤ h.length) {d : Nat} {N : Nat} {Q : Option Value → zz_H → Prop}  {s s' : mS} {v : Option Value} (hf : mf_327_48 N  s = some (s', v)) (k : Q v (mH h s')) : zz_E zp_P zt_tf zt_fd X (d + 0) zm_327 48 [] [] (mH h s) Q := by
  unfold mf_327_48 at hf
  exact mb_327_48 hh  (mr_327_49 hh hf k)
def mf_327_44 (N : Nat)  (s : mS) : mO := mf_327_49 N 1 s
theorem mr_327_44 {X : Nat → Option zz_C} {h : zz_H} (hh : 111 ≤ h.length) {d : Nat} {N : Nat} {Q : Option Value → zz_H → Prop}  {s s' : mS} {v : Option Value} (hf : mf_327_44 N  s = some (s', v)) (k : Q v (mH h s')) : zz_E zp_P zt_tf zt_fd X (d + 0) zm_327 44 [] [] (mH h s) Q := by
  unfold mf_327_44 at hf
  exact mb_327_44 hh  (mr_327_49 hh hf k)
def mf_327_40 (N : Nat) (x2 : Int32) (s : mS) : mO := if ¬ x2 = 0 then mf_327_48 N  s else mf_327_44 N  s
theorem mr_327_40 {X : Nat → Option zz_C} {h : zz_H} (hh : 111 ≤ h.length) {d : Nat} {N : Nat} {Q : Option Value → zz_H → Prop} {x2 : Int32} {s s' : mS} {v : Option Value} (hf : mf_327_40 N x2 s = some (s', v)) (k : Q v (mH h s')) : zz_E zp_P zt_tf zt_fd X (d + 0) zm_327 40 [(2, .int x2)] [] (mH h s) Q := by
  unfold mf_327_40 at hf
  refine mb_327_40 hh  (fun c => ?_) (fun c => ?_)
  · rw [if_pos c] at hf
    exact mr_327_48 hh hf k
  · rw [if_neg c] at hf
    exact mr_327_44 hh hf k
def mf_327_95 (N : Nat) (y0 : Int32) (s : mS) : mO := if zz_reti (some .boolean) y0 = true then some (s, (some (.int y0))) else none
theorem mr_327_95 {X : Nat → Option zz_C} {h : zz_H} (hh : 111 ≤ h.length) {d : Nat} {N : Nat} {Q : Option Value → zz_H → Prop} {y0 : Int32} {s s' : mS} {v : Option Value} (hf : mf_327_95 N y0 s = some (s', v)) (k : Q v (mH h s')) : zz_E zp_P zt_tf zt_fd X (d + 0) zm_327 95 [] [.int y0] (mH h s) Q := by
  unfold mf_327_95 at hf
  obtain ⟨rb, hf⟩ := mo_if hf
  cases hf
  exact mb_327_95 hh  k rb
def mf_327_94 (N : Nat)  (s : mS) : mO := mf_327_95 N 0 s
theorem mr_327_94 {X : Nat → Option zz_C} {h : zz_H} (hh : 111 ≤ h.length) {d : Nat} {N : Nat} {Q : Option Value → zz_H → Prop}  {s s' : mS} {v : Option Value} (hf : mf_327_94 N  s = some (s', v)) (k : Q v (mH h s')) : zz_E zp_P zt_tf zt_fd X (d + 0) zm_327 94 [] [] (mH h s) Q := by
  unfold mf_327_94 at hf
  exact mb_327_94 hh  (mr_327_95 hh hf k)
def mf_327_90 (N : Nat)  (s : mS) : mO := mf_327_95 N 1 s
theorem mr_327_90 {X : Nat → Option zz_C} {h : zz_H} (hh : 111 ≤ h.length) {d : Nat} {N : Nat} {Q : Option Value → zz_H → Prop}  {s s' : mS} {v : Option Value} (hf : mf_327_90 N  s = some (s', v)) (k : Q v (mH h s')) : zz_E zp_P zt_tf zt_fd X (d + 0) zm_327 90 [] [] (mH h s) Q := by
  unfold mf_327_90 at hf
  exact mb_327_90 hh  (mr_327_95 hh hf k)
def mf_327_85 (N : Nat) (x2 : Int32) (s : mS) : mO := if ¬ x2 = 1 then mf_327_94 N  s else mf_327_90 N  s
theorem mr_327_85 {X : Nat → Option zz_C} {h : zz_H} (hh : 111 ≤ h.length) {d : Nat} {N : Nat} {Q : Option Value → zz_H → Prop} {x2 : Int32} {s s' : mS} {v : Option Value} (hf : mf_327_85 N x2 s = some (s', v)) (k : Q v (mH h s')) : zz_E zp_P zt_tf zt_fd X (d + 0) zm_327 85 [(2, .int x2)] [] (mH h s) Q := by
  unfold mf_327_85 at hf
  refine mb_327_85 hh  (fun c => ?_) (fun c => ?_)
  · rw [if_pos c] at hf
    exact mr_327_94 hh hf k
  · rw [if_neg c] at hf
    exact mr_327_90 hh hf k
def mf_327_123 (N : Nat) (y0 : Int32) (s : mS) : mO := if zz_reti (some .boolean) y0 = true then some (s, (some (.int y0))) else none
theorem mr_327_123 {X : Nat → Option zz_C} {h : zz_H} (hh : 111 ≤ h.length) {d : Nat} {N : Nat} {Q : Option Value → zz_H → Prop} {y0 : Int32} {s s' : mS} {v : Option Value} (hf : mf_327_123 N y0 s = some (s', v)) (k : Q v (mH h s')) : zz_E zp_P zt_tf zt_fd X (d + 0) zm_327 123 [] [.int y0] (mH h s) Q := by
  unfold mf_327_123 at hf
  obtain ⟨rb, hf⟩ := mo_if hf
  cases hf
  exact mb_327_123 hh  k rb
def mf_327_122 (N : Nat)  (s : mS) : mO := mf_327_123 N 0 s
theorem mr_327_122 {X : Nat → Option zz_C} {h : zz_H} (hh : 111 ≤ h.length) {d : Nat} {N : Nat} {Q : Option Value → zz_H → Prop}  {s s' : mS} {v : Option Value} (hf : mf_327_122 N  s = some (s', v)) (k : Q v (mH h s')) : zz_E zp_P zt_tf zt_fd X (d + 0) zm_327 122 [] [] (mH h s) Q := by
  unfold mf_327_122 at hf
  exact mb_327_122 hh  (mr_327_123 hh hf k)
def mf_327_118 (N : Nat)  (s : mS) : mO := mf_327_123 N 1 s
theorem mr_327_118 {X : Nat → Option zz_C} {h : zz_H} (hh : 111 ≤ h.length) {d : Nat} {N : Nat} {Q : Option Value → zz_H → Prop}  {s s' : mS} {v : Option Value} (hf : mf_327_118 N  s = some (s', v)) (k : Q v (mH h s')) : zz_E zp_P zt_tf zt_fd X (d + 0) zm_327 118 [] [] (mH h s) Q := by
  unfold mf_327_118 at hf
  exact mb_327_118 hh  (mr_327_123 hh hf k)
def mf_327_114 (N : Nat) (x2 : Int32) (s : mS) : mO := if x2 ≤ 0 then mf_327_122 N  s else mf_327_118 N  s
theorem mr_327_114 {X : Nat → Option zz_C} {h : zz_H} (hh : 111 ≤ h.length) {d : Nat} {N : Nat} {Q : Option Value → zz_H → Prop} {x2 : Int32} {s s' : mS} {v : Option Value} (hf : mf_327_114 N x2 s = some (s', v)) (k : Q v (mH h s')) : zz_E zp_P zt_tf zt_fd X (d + 0) zm_327 114 [(2, .int x2)] [] (mH h s) Q := by
  unfold mf_327_114 at hf
  refine mb_327_114 hh  (fun c => ?_) (fun c => ?_)
  · rw [if_pos c] at hf
    exact mr_327_122 hh hf k
  · rw [if_neg c] at hf
    exact mr_327_118 hh hf k
def mf_327_152 (N : Nat) (y0 : Int32) (s : mS) : mO := if zz_reti (some .boolean) y0 = true then some (s, (some (.int y0))) else none
theorem mr_327_152 {X : Nat → Option zz_C} {h : zz_H} (hh : 111 ≤ h.length) {d : Nat} {N : Nat} {Q : Option Value → zz_H → Prop} {y0 : Int32} {s s' : mS} {v : Option Value} (hf : mf_327_152 N y0 s = some (s', v)) (k : Q v (mH h s')) : zz_E zp_P zt_tf zt_fd X (d + 0) zm_327 152 [] [.int y0] (mH h s) Q := by
  unfold mf_327_152 at hf
  obtain ⟨rb, hf⟩ := mo_if hf
  cases hf
  exact mb_327_152 hh  k rb
def mf_327_151 (N : Nat)  (s : mS) : mO := mf_327_152 N 0 s
theorem mr_327_151 {X : Nat → Option zz_C} {h : zz_H} (hh : 111 ≤ h.length) {d : Nat} {N : Nat} {Q : Option Value → zz_H → Prop}  {s s' : mS} {v : Option Value} (hf : mf_327_151 N  s = some (s', v)) (k : Q v (mH h s')) : zz_E zp_P zt_tf zt_fd X (d + 0) zm_327 151 [] [] (mH h s) Q := by
  unfold mf_327_151 at hf
  exact mb_327_151 hh  (mr_327_152 hh hf k)
def mf_327_147 (N : Nat)  (s : mS) : mO := mf_327_152 N 1 s
theorem mr_327_147 {X : Nat → Option zz_C} {h : zz_H} (hh : 111 ≤ h.length) {d : Nat} {N : Nat} {Q : Option Value → zz_H → Prop}  {s s' : mS} {v : Option Value} (hf : mf_327_147 N  s = some (s', v)) (k : Q v (mH h s')) : zz_E zp_P zt_tf zt_fd X (d + 0) zm_327 147 [] [] (mH h s) Q := by
  unfold mf_327_147 at hf
  exact mb_327_147 hh  (mr_327_152 hh hf k)
def mf_327_142 (N : Nat) (x2 : Int32) (s : mS) : mO := if ¬ x2 = 2 then mf_327_151 N  s else mf_327_147 N  s
theorem mr_327_142 {X : Nat → Option zz_C} {h : zz_H} (hh : 111 ≤ h.length) {d : Nat} {N : Nat} {Q : Option Value → zz_H → Prop} {x2 : Int32} {s s' : mS} {v : Option Value} (hf : mf_327_142 N x2 s = some (s', v)) (k : Q v (mH h s')) : zz_E zp_P zt_tf zt_fd X (d + 0) zm_327 142 [(2, .int x2)] [] (mH h s) Q := by
  unfold mf_327_142 at hf
  refine mb_327_142 hh  (fun c => ?_) (fun c => ?_)
  · rw [if_pos c] at hf
    exact mr_327_151 hh hf k
  · rw [if_neg c] at hf
    exact mr_327_147 hh hf k
def mf_327_214 (N : Nat) (y0 : Int32) (s : mS) : mO := if zz_reti (some .boolean) y0 = true then some (s, (some (.int y0))) else none
theorem mr_327_214 {X : Nat → Option zz_C} {h : zz_H} (hh : 111 ≤ h.length) {d : Nat} {N : Nat} {Q : Option Value → zz_H → Prop} {y0 : Int32} {s s' : mS} {v : Option Value} (hf : mf_327_214 N y0 s = some (s', v)) (k : Q v (mH h s')) : zz_E zp_P zt_tf zt_fd X (d + 0) zm_327 214 [] [.int y0] (mH h s) Q := by
  unfold mf_327_214 at hf
  obtain ⟨rb, hf⟩ := mo_if hf
  cases hf
  exact mb_327_214 hh  k rb
def mf_327_209 (N : Nat)  (s : mS) : mO := mf_327_214 N 1 s
theorem mr_327_209 {X : Nat → Option zz_C} {h : zz_H} (hh : 111 ≤ h.length) {d : Nat} {N : Nat} {Q : Option Value → zz_H → Prop}  {s s' : mS} {v : Option Value} (hf : mf_327_209 N  s = some (s', v)) (k : Q v (mH h s')) : zz_E zp_P zt_tf zt_fd X (d + 0) zm_327 209 [] [] (mH h s) Q := by
  unfold mf_327_209 at hf
  exact mb_327_209 hh  (mr_327_214 hh hf k)
def mf_327_213 (N : Nat)  (s : mS) : mO := mf_327_214 N 0 s
theorem mr_327_213 {X : Nat → Option zz_C} {h : zz_H} (hh : 111 ≤ h.length) {d : Nat} {N : Nat} {Q : Option Value → zz_H → Prop}  {s s' : mS} {v : Option Value} (hf : mf_327_213 N  s = some (s', v)) (k : Q v (mH h s')) : zz_E zp_P zt_tf zt_fd X (d + 0) zm_327 213 [] [] (mH h s) Q := by
  unfold mf_327_213 at hf
  exact mb_327_213 hh  (mr_327_214 hh hf k)
def mf_327_204 (N : Nat) (x2 : Int32) (s : mS) : mO := if x2 ≤ 1 then mf_327_213 N  s else mf_327_209 N  s
theorem mr_327_204 {X : Nat → Option zz_C} {h : zz_H} (hh : 111 ≤ h.length) {d : Nat} {N : Nat} {Q : Option Value → zz_H → Prop} {x2 : Int32} {s s' : mS} {v : Option Value} (hf : mf_327_204 N x2 s = some (s', v)) (k : Q v (mH h s')) : zz_E zp_P zt_tf zt_fd X (d + 0) zm_327 204 [(2, .int x2)] [] (mH h s) Q := by
  unfold mf_327_204 at hf
  refine mb_327_204 hh  (fun c => ?_) (fun c => ?_)
  · rw [if_pos c] at hf
    exact mr_327_213 hh hf k
  · rw [if_neg c] at hf
    exact mr_327_209 hh hf k
def mf_327_198 (N : Nat) (x0 : Int32) (x2 : Int32) (s : mS) : mO := if ¬ x0 = 16 then mf_327_209 N  s else mf_327_204 N x2 s
theorem mr_327_198 {X : Nat → Option zz_C} {h : zz_H} (hh : 111 ≤ h.length) {d : Nat} {N : Nat} {Q : Option Value → zz_H → Prop} {x0 : Int32} {x2 : Int32} {s s' : mS} {v : Option Value} (hf : mf_327_198 N x0 x2 s = some (s', v)) (k : Q v (mH h s')) : zz_E zp_P zt_tf zt_fd X (d + 0) zm_327 198 [(0, .int x0), (2, .int x2)] [] (mH h s) Q := by
  unfold mf_327_198 at hf
  refine mb_327_198 hh  (fun c => ?_) (fun c => ?_)
  · rw [if_pos c] at hf
    exact mr_327_209 hh hf k
  · rw [if_neg c] at hf
    exact mr_327_204 hh hf k
def mf_327_197 (N : Nat) (y0 : Int32) (s : mS) : mO := if zz_reti (some .boolean) y0 = true then some (s, (some (.int y0))) else none
theorem mr_327_197 {X : Nat → Option zz_C} {h : zz_H} (hh : 111 ≤ h.length) {d : Nat} {N : Nat} {Q : Option Value → zz_H → Prop} {y0 : Int32} {s s' : mS} {v : Option Value} (hf : mf_327_197 N y0 s = some (s', v)) (k : Q v (mH h s')) : zz_E zp_P zt_tf zt_fd X (d + 0) zm_327 197 [] [.int y0] (mH h s) Q := by
  unfold mf_327_197 at hf
  obtain ⟨rb, hf⟩ := mo_if hf
  cases hf
  exact mb_327_197 hh  k rb
def mf_327_192 (N : Nat)  (s : mS) : mO := mf_327_197 N 1 s
theorem mr_327_192 {X : Nat → Option zz_C} {h : zz_H} (hh : 111 ≤ h.length) {d : Nat} {N : Nat} {Q : Option Value → zz_H → Prop}  {s s' : mS} {v : Option Value} (hf : mf_327_192 N  s = some (s', v)) (k : Q v (mH h s')) : zz_E zp_P zt_tf zt_fd X (d + 0) zm_327 192 [] [] (mH h s) Q := by
  unfold mf_327_192 at hf
  exact mb_327_192 hh  (mr_327_197 hh hf k)
def mf_327_196 (N : Nat)  (s : mS) : mO := mf_327_197 N 0 s
theorem mr_327_196 {X : Nat → Option zz_C} {h : zz_H} (hh : 111 ≤ h.length) {d : Nat} {N : Nat} {Q : Option Value → zz_H → Prop}  {s s' : mS} {v : Option Value} (hf : mf_327_196 N  s = some (s', v)) (k : Q v (mH h s')) : zz_E zp_P zt_tf zt_fd X (d + 0) zm_327 196 [] [] (mH h s) Q := by
  unfold mf_327_196 at hf
  exact mb_327_196 hh  (mr_327_197 hh hf k)
def mf_327_187 (N : Nat) (x2 : Int32) (s : mS) : mO := if ¬ x2 = 2 then mf_327_196 N  s else mf_327_192 N  s
theorem mr_327_187 {X : Nat → Option zz_C} {h : zz_H} (hh : 111 ≤ h.length) {d : Nat} {N : Nat} {Q : Option Value → zz_H → Prop} {x2 : Int32} {s s' : mS} {v : Option Value} (hf : mf_327_187 N x2 s = some (s', v)) (k : Q v (mH h s')) : zz_E zp_P zt_tf zt_fd X (d + 0) zm_327 187 [(2, .int x2)] [] (mH h s) Q := by
  unfold mf_327_187 at hf
  refine mb_327_187 hh  (fun c => ?_) (fun c => ?_)
  · rw [if_pos c] at hf
    exact mr_327_196 hh hf k
  · rw [if_neg c] at hf
    exact mr_327_192 hh hf k
def mf_327_182 (N : Nat) (x2 : Int32) (s : mS) : mO := if x2 = 1 then mf_327_192 N  s else mf_327_187 N x2 s
theorem mr_327_182 {X : Nat → Option zz_C} {h : zz_H} (hh : 111 ≤ h.length) {d : Nat} {N : Nat} {Q : Option Value → zz_H → Prop} {x2 : Int32} {s s' : mS} {v : Option Value} (hf : mf_327_182 N x2 s = some (s', v)) (k : Q v (mH h s')) : zz_E zp_P zt_tf zt_fd X (d + 0) zm_327 182 [(2, .int x2)] [] (mH h s) Q := by
  unfold mf_327_182 at hf
  refine mb_327_182 hh  (fun c => ?_) (fun c => ?_)
  · rw [if_pos c] at hf
    exact mr_327_192 hh hf k
  · rw [if_neg c] at hf
    exact mr_327_187 hh hf k
def mf_327_176 (N : Nat) (x0 : Int32) (x2 : Int32) (s : mS) : mO := if 13 < x0 then mf_327_198 N x0 x2 s else mf_327_182 N x2 s
theorem mr_327_176 {X : Nat → Option zz_C} {h : zz_H} (hh : 111 ≤ h.length) {d : Nat} {N : Nat} {Q : Option Value → zz_H → Prop} {x0 : Int32} {x2 : Int32} {s s' : mS} {v : Option Value} (hf : mf_327_176 N x0 x2 s = some (s', v)) (k : Q v (mH h s')) : zz_E zp_P zt_tf zt_fd X (d + 0) zm_327 176 [(0, .int x0), (2, .int x2)] [] (mH h s) Q := by
  unfold mf_327_176 at hf
  refine mb_327_176 hh  (fun c => ?_) (fun c => ?_)
  · rw [if_pos c] at hf
    exact mr_327_198 hh hf k
  · rw [if_neg c] at hf
    exact mr_327_182 hh hf k
def mf_327_170 (N : Nat) (x0 : Int32) (x2 : Int32) (s : mS) : mO := if x0 < 10 then mf_327_198 N x0 x2 s else mf_327_176 N x0 x2 s
theorem mr_327_170 {X : Nat → Option zz_C} {h : zz_H} (hh : 111 ≤ h.length) {d : Nat} {N : Nat} {Q : Option Value → zz_H → Prop} {x0 : Int32} {x2 : Int32} {s s' : mS} {v : Option Value} (hf : mf_327_170 N x0 x2 s = some (s', v)) (k : Q v (mH h s')) : zz_E zp_P zt_tf zt_fd X (d + 0) zm_327 170 [(0, .int x0), (2, .int x2)] [] (mH h s) Q := by
  unfold mf_327_170 at hf
  refine mb_327_170 hh  (fun c => ?_) (fun c => ?_)
  · rw [if_pos c] at hf
    exact mr_327_198 hh hf k
  · rw [if_neg c] at hf
    exact mr_327_176 hh hf k
def mf_327_169 (N : Nat) (y0 : Int32) (s : mS) : mO := if zz_reti (some .boolean) y0 = true then some (s, (some (.int y0))) else none
theorem mr_327_169 {X : Nat → Option zz_C} {h : zz_H} (hh : 111 ≤ h.length) {d : Nat} {N : Nat} {Q : Option Value → zz_H → Prop} {y0 : Int32} {s s' : mS} {v : Option Value} (hf : mf_327_169 N y0 s = some (s', v)) (k : Q v (mH h s')) : zz_E zp_P zt_tf zt_fd X (d + 0) zm_327 169 [] [.int y0] (mH h s) Q := by
  unfold mf_327_169 at hf
  obtain ⟨rb, hf⟩ := mo_if hf
  cases hf
  exact mb_327_169 hh  k rb
def mf_327_168 (N : Nat)  (s : mS) : mO := mf_327_169 N 0 s
theorem mr_327_168 {X : Nat → Option zz_C} {h : zz_H} (hh : 111 ≤ h.length) {d : Nat} {N : Nat} {Q : Option Value → zz_H → Prop}  {s s' : mS} {v : Option Value} (hf : mf_327_168 N  s = some (s', v)) (k : Q v (mH h s')) : zz_E zp_P zt_tf zt_fd X (d + 0) zm_327 168 [] [] (mH h s) Q := by
  unfold mf_327_168 at hf
  exact mb_327_168 hh  (mr_327_169 hh hf k)
def mf_327_164 (N : Nat)  (s : mS) : mO := mf_327_169 N 1 s
theorem mr_327_164 {X : Nat → Option zz_C} {h : zz_H} (hh : 111 ≤ h.length) {d : Nat} {N : Nat} {Q : Option Value → zz_H → Prop}  {s s' : mS} {v : Option Value} (hf : mf_327_164 N  s = some (s', v)) (k : Q v (mH h s')) : zz_E zp_P zt_tf zt_fd X (d + 0) zm_327 164 [] [] (mH h s) Q := by
  unfold mf_327_164 at hf
  exact mb_327_164 hh  (mr_327_169 hh hf k)
def mf_327_159 (N : Nat) (x2 : Int32) (s : mS) : mO := if 3 ≤ x2 then mf_327_168 N  s else mf_327_164 N  s
theorem mr_327_159 {X : Nat → Option zz_C} {h : zz_H} (hh : 111 ≤ h.length) {d : Nat} {N : Nat} {Q : Option Value → zz_H → Prop} {x2 : Int32} {s s' : mS} {v : Option Value} (hf : mf_327_159 N x2 s = some (s', v)) (k : Q v (mH h s')) : zz_E zp_P zt_tf zt_fd X (d + 0) zm_327 159 [(2, .int x2)] [] (mH h s) Q := by
  unfold mf_327_159 at hf
  refine mb_327_159 hh  (fun c => ?_) (fun c => ?_)
  · rw [if_pos c] at hf
    exact mr_327_168 hh hf k
  · rw [if_neg c] at hf
    exact mr_327_164 hh hf k
def mf_327_153 (N : Nat) (x0 : Int32) (x2 : Int32) (s : mS) : mO := if ¬ x0 = 9 then mf_327_170 N x0 x2 s else mf_327_159 N x2 s
theorem mr_327_153 {X : Nat → Option zz_C} {h : zz_H} (hh : 111 ≤ h.length) {d : Nat} {N : Nat} {Q : Option Value → zz_H → Prop} {x0 : Int32} {x2 : Int32} {s s' : mS} {v : Option Value} (hf : mf_327_153 N x0 x2 s = some (s', v)) (k : Q v (mH h s')) : zz_E zp_P zt_tf zt_fd X (d + 0) zm_327 153 [(0, .int x0), (2, .int x2)] [] (mH h s) Q := by
  unfold mf_327_153 at hf
  refine mb_327_153 hh  (fun c => ?_) (fun c => ?_)
  · rw [if_pos c] at hf
    exact mr_327_170 hh hf k
  · rw [if_neg c] at hf
    exact mr_327_159 hh hf k
def mf_327_136 (N : Nat) (x0 : Int32) (x2 : Int32) (s : mS) : mO := if ¬ x0 = 25 then mf_327_153 N x0 x2 s else mf_327_142 N x2 s
theorem mr_327_136 {X : Nat → Option zz_C} {h : zz_H} (hh : 111 ≤ h.length) {d : Nat} {N : Nat} {Q : Option Value → zz_H → Prop} {x0 : Int32} {x2 : Int32} {s s' : mS} {v : Option Value} (hf : mf_327_136 N x0 x2 s = some (s', v)) (k : Q v (mH h s')) : zz_E zp_P zt_tf zt_fd X (d + 0) zm_327 136 [(0, .int x0), (2, .int x2)] [] (mH h s) Q := by
  unfold mf_327_136 at hf
  refine mb_327_136 hh  (fun c => ?_) (fun c => ?_)
  · rw [if_pos c] at hf
    exact mr_327_153 hh hf k
  · rw [if_neg c] at hf
    exact mr_327_142 hh hf k
def mf_327_130 (N : Nat) (x0 : Int32) (x2 : Int32) (s : mS) : mO := if x0 = 17 then mf_327_142 N x2 s else mf_327_136 N x0 x2 s
theorem mr_327_130 {X : Nat → Option zz_C} {h : zz_H} (hh : 111 ≤ h.length) {d : Nat} {N : Nat} {Q : Option Value → zz_H → Prop} {x0 : Int32} {x2 : Int32} {s s' : mS} {v : Option Value} (hf : mf_327_130 N x0 x2 s = some (s', v)) (k : Q v (mH h s')) : zz_E zp_P zt_tf zt_fd X (d + 0) zm_327 130 [(0, .int x0), (2, .int x2)] [] (mH h s) Q := by
  unfold mf_327_130 at hf
  refine mb_327_130 hh  (fun c => ?_) (fun c => ?_)
  · rw [if_pos c] at hf
    exact mr_327_142 hh hf k
  · rw [if_neg c] at hf
    exact mr_327_136 hh hf k
def mf_327_124 (N : Nat) (x0 : Int32) (x2 : Int32) (s : mS) : mO := if x0 = 7 then mf_327_142 N x2 s else mf_327_130 N x0 x2 s
theorem mr_327_124 {X : Nat → Option zz_C} {h : zz_H} (hh : 111 ≤ h.length) {d : Nat} {N : Nat} {Q : Option Value → zz_H → Prop} {x0 : Int32} {x2 : Int32} {s s' : mS} {v : Option Value} (hf : mf_327_124 N x0 x2 s = some (s', v)) (k : Q v (mH h s')) : zz_E zp_P zt_tf zt_fd X (d + 0) zm_327 124 [(0, .int x0), (2, .int x2)] [] (mH h s) Q := by
  unfold mf_327_124 at hf
  refine mb_327_124 hh  (fun c => ?_) (fun c => ?_)
  · rw [if_pos c] at hf
    exact mr_327_142 hh hf k
  · rw [if_neg c] at hf
    exact mr_327_130 hh hf k
def mf_327_108 (N : Nat) (x0 : Int32) (x2 : Int32) (s : mS) : mO := if ¬ x0 = 23 then mf_327_124 N x0 x2 s else mf_327_114 N x2 s
theorem mr_327_108 {X : Nat → Option zz_C} {h : zz_H} (hh : 111 ≤ h.length) {d : Nat} {N : Nat} {Q : Option Value → zz_H → Prop} {x0 : Int32} {x2 : Int32} {s s' : mS} {v : Option Value} (hf : mf_327_108 N x0 x2 s = some (s', v)) (k : Q v (mH h s')) : zz_E zp_P zt_tf zt_fd X (d + 0) zm_327 108 [(0, .int x0), (2, .int x2)] [] (mH h s) Q := by
  unfold mf_327_108 at hf
  refine mb_327_108 hh  (fun c => ?_) (fun c => ?_)
  · rw [if_pos c] at hf
    exact mr_327_124 hh hf k
  · rw [if_neg c] at hf
    exact mr_327_114 hh hf k
def mf_327_102 (N : Nat) (x0 : Int32) (x2 : Int32) (s : mS) : mO := if x0 = 15 then mf_327_114 N x2 s else mf_327_108 N x0 x2 s
theorem mr_327_102 {X : Nat → Option zz_C} {h : zz_H} (hh : 111 ≤ h.length) {d : Nat} {N : Nat} {Q : Option Value → zz_H → Prop} {x0 : Int32} {x2 : Int32} {s s' : mS} {v : Option Value} (hf : mf_327_102 N x0 x2 s = some (s', v)) (k : Q v (mH h s')) : zz_E zp_P zt_tf zt_fd X (d + 0) zm_327 102 [(0, .int x0), (2, .int x2)] [] (mH h s) Q := by
  unfold mf_327_102 at hf
  refine mb_327_102 hh  (fun c => ?_) (fun c => ?_)
  · rw [if_pos c] at hf
    exact mr_327_114 hh hf k
  · rw [if_neg c] at hf
    exact mr_327_108 hh hf k
def mf_327_96 (N : Nat) (x0 : Int32) (x2 : Int32) (s : mS) : mO := if x0 = 6 then mf_327_114 N x2 s else mf_327_102 N x0 x2 s
theorem mr_327_96 {X : Nat → Option zz_C} {h : zz_H} (hh : 111 ≤ h.length) {d : Nat} {N : Nat} {Q : Option Value → zz_H → Prop} {x0 : Int32} {x2 : Int32} {s s' : mS} {v : Option Value} (hf : mf_327_96 N x0 x2 s = some (s', v)) (k : Q v (mH h s')) : zz_E zp_P zt_tf zt_fd X (d + 0) zm_327 96 [(0, .int x0), (2, .int x2)] [] (mH h s) Q := by
  unfold mf_327_96 at hf
  refine mb_327_96 hh  (fun c => ?_) (fun c => ?_)
  · rw [if_pos c] at hf
    exact mr_327_114 hh hf k
  · rw [if_neg c] at hf
    exact mr_327_102 hh hf k
def mf_327_79 (N : Nat) (x0 : Int32) (x2 : Int32) (s : mS) : mO := if ¬ x0 = 26 then mf_327_96 N x0 x2 s else mf_327_85 N x2 s
theorem mr_327_79 {X : Nat → Option zz_C} {h : zz_H} (hh : 111 ≤ h.length) {d : Nat} {N : Nat} {Q : Option Value → zz_H → Prop} {x0 : Int32} {x2 : Int32} {s s' : mS} {v : Option Value} (hf : mf_327_79 N x0 x2 s = some (s', v)) (k : Q v (mH h s')) : zz_E zp_P zt_tf zt_fd X (d + 0) zm_327 79 [(0, .int x0), (2, .int x2)] [] (mH h s) Q := by
  unfold mf_327_79 at hf
  refine mb_327_79 hh  (fun c => ?_) (fun c => ?_)
  · rw [if_pos c] at hf
    exact mr_327_96 hh hf k
  · rw [if_neg c] at hf
    exact mr_327_85 hh hf k
def mf_327_73 (N : Nat) (x0 : Int32) (x2 : Int32) (s : mS) : mO := if x0 = 24 then mf_327_85 N x2 s else mf_327_79 N x0 x2 s
theorem mr_327_73 {X : Nat → Option zz_C} {h : zz_H} (hh : 111 ≤ h.length) {d : Nat} {N : Nat} {Q : Option Value → zz_H → Prop} {x0 : Int32} {x2 : Int32} {s s' : mS} {v : Option Value} (hf : mf_327_73 N x0 x2 s = some (s', v)) (k : Q v (mH h s')) : zz_E zp_P zt_tf zt_fd X (d + 0) zm_327 73 [(0, .int x0), (2, .int x2)] [] (mH h s) Q := by
  unfold mf_327_73 at hf
  refine mb_327_73 hh  (fun c => ?_) (fun c => ?_)
  · rw [if_pos c] at hf
    exact mr_327_85 hh hf k
  · rw [if_neg c] at hf
    exact mr_327_79 hh hf k
def mf_327_67 (N : Nat) (x0 : Int32) (x2 : Int32) (s : mS) : mO := if x0 = 22 then mf_327_85 N x2 s else mf_327_73 N x0 x2 s
theorem mr_327_67 {X : Nat → Option zz_C} {h : zz_H} (hh : 111 ≤ h.length) {d : Nat} {N : Nat} {Q : Option Value → zz_H → Prop} {x0 : Int32} {x2 : Int32} {s s' : mS} {v : Option Value} (hf : mf_327_67 N x0 x2 s = some (s', v)) (k : Q v (mH h s')) : zz_E zp_P zt_tf zt_fd X (d + 0) zm_327 67 [(0, .int x0), (2, .int x2)] [] (mH h s) Q := by
  unfold mf_327_67 at hf
  refine mb_327_67 hh  (fun c => ?_) (fun c => ?_)
  · rw [if_pos c] at hf
    exact mr_327_85 hh hf k
  · rw [if_neg c] at hf
    exact mr_327_73 hh hf k
def mf_327_61 (N : Nat) (x0 : Int32) (x2 : Int32) (s : mS) : mO := if x0 = 18 then mf_327_85 N x2 s else mf_327_67 N x0 x2 s
theorem mr_327_61 {X : Nat → Option zz_C} {h : zz_H} (hh : 111 ≤ h.length) {d : Nat} {N : Nat} {Q : Option Value → zz_H → Prop} {x0 : Int32} {x2 : Int32} {s s' : mS} {v : Option Value} (hf : mf_327_61 N x0 x2 s = some (s', v)) (k : Q v (mH h s')) : zz_E zp_P zt_tf zt_fd X (d + 0) zm_327 61 [(0, .int x0), (2, .int x2)] [] (mH h s) Q := by
  unfold mf_327_61 at hf
  refine mb_327_61 hh  (fun c => ?_) (fun c => ?_)
  · rw [if_pos c] at hf
    exact mr_327_85 hh hf k
  · rw [if_neg c] at hf
    exact mr_327_67 hh hf k
def mf_327_55 (N : Nat) (x0 : Int32) (x2 : Int32) (s : mS) : mO := if x0 = 14 then mf_327_85 N x2 s else mf_327_61 N x0 x2 s
theorem mr_327_55 {X : Nat → Option zz_C} {h : zz_H} (hh : 111 ≤ h.length) {d : Nat} {N : Nat} {Q : Option Value → zz_H → Prop} {x0 : Int32} {x2 : Int32} {s s' : mS} {v : Option Value} (hf : mf_327_55 N x0 x2 s = some (s', v)) (k : Q v (mH h s')) : zz_E zp_P zt_tf zt_fd X (d + 0) zm_327 55 [(0, .int x0), (2, .int x2)] [] (mH h s) Q := by
  unfold mf_327_55 at hf
  refine mb_327_55 hh  (fun c => ?_) (fun c => ?_)
  · rw [if_pos c] at hf
    exact mr_327_85 hh hf k
  · rw [if_neg c] at hf
    exact mr_327_61 hh hf k
def mf_327_50 (N : Nat) (x0 : Int32) (x2 : Int32) (s : mS) : mO := if x0 = 4 then mf_327_85 N x2 s else mf_327_55 N x0 x2 s
theorem mr_327_50 {X : Nat → Option zz_C} {h : zz_H} (hh : 111 ≤ h.length) {d : Nat} {N : Nat} {Q : Option Value → zz_H → Prop} {x0 : Int32} {x2 : Int32} {s s' : mS} {v : Option Value} (hf : mf_327_50 N x0 x2 s = some (s', v)) (k : Q v (mH h s')) : zz_E zp_P zt_tf zt_fd X (d + 0) zm_327 50 [(0, .int x0), (2, .int x2)] [] (mH h s) Q := by
  unfold mf_327_50 at hf
  refine mb_327_50 hh  (fun c => ?_) (fun c => ?_)
  · rw [if_pos c] at hf
    exact mr_327_85 hh hf k
  · rw [if_neg c] at hf
    exact mr_327_55 hh hf k
def mf_327_34 (N : Nat) (x0 : Int32) (x2 : Int32) (s : mS) : mO := if ¬ x0 = 21 then mf_327_50 N x0 x2 s else mf_327_40 N x2 s
theorem mr_327_34 {X : Nat → Option zz_C} {h : zz_H} (hh : 111 ≤ h.length) {d : Nat} {N : Nat} {Q : Option Value → zz_H → Prop} {x0 : Int32} {x2 : Int32} {s s' : mS} {v : Option Value} (hf : mf_327_34 N x0 x2 s = some (s', v)) (k : Q v (mH h s')) : zz_E zp_P zt_tf zt_fd X (d + 0) zm_327 34 [(0, .int x0), (2, .int x2)] [] (mH h s) Q := by
  unfold mf_327_34 at hf
  refine mb_327_34 hh  (fun c => ?_) (fun c => ?_)
  · rw [if_pos c] at hf
    exact mr_327_50 hh hf k
  · rw [if_neg c] at hf
    exact mr_327_40 hh hf k
def mf_327_28 (N : Nat) (x0 : Int32) (x2 : Int32) (s : mS) : mO := if x0 = 20 then mf_327_40 N x2 s else mf_327_34 N x0 x2 s
theorem mr_327_28 {X : Nat → Option zz_C} {h : zz_H} (hh : 111 ≤ h.length) {d : Nat} {N : Nat} {Q : Option Value → zz_H → Prop} {x0 : Int32} {x2 : Int32} {s s' : mS} {v : Option Value} (hf : mf_327_28 N x0 x2 s = some (s', v)) (k : Q v (mH h s')) : zz_E zp_P zt_tf zt_fd X (d + 0) zm_327 28 [(0, .int x0), (2, .int x2)] [] (mH h s) Q := by
  unfold mf_327_28 at hf
  refine mb_327_28 hh  (fun c => ?_) (fun c => ?_)
  · rw [if_pos c] at hf
    exact mr_327_40 hh hf k
  · rw [if_neg c] at hf
    exact mr_327_34 hh hf k
def mf_327_23 (N : Nat) (x0 : Int32) (x2 : Int32) (s : mS) : mO := if x0 < 4 then mf_327_40 N x2 s else mf_327_28 N x0 x2 s
theorem mr_327_23 {X : Nat → Option zz_C} {h : zz_H} (hh : 111 ≤ h.length) {d : Nat} {N : Nat} {Q : Option Value → zz_H → Prop} {x0 : Int32} {x2 : Int32} {s s' : mS} {v : Option Value} (hf : mf_327_23 N x0 x2 s = some (s', v)) (k : Q v (mH h s')) : zz_E zp_P zt_tf zt_fd X (d + 0) zm_327 23 [(0, .int x0), (2, .int x2)] [] (mH h s) Q := by
  unfold mf_327_23 at hf
  refine mb_327_23 hh  (fun c => ?_) (fun c => ?_)
  · rw [if_pos c] at hf
    exact mr_327_40 hh hf k
  · rw [if_neg c] at hf
    exact mr_327_28 hh hf k
def mf_327_19 (N : Nat) (x0 : Int32) (x1 : Int32) (x2 : Int32) (x3 : Int32) (s : mS) : mO := if ¬ x1 = 0 then mf_327_215 N x0 x2 x3 s else mf_327_23 N x0 x2 s
theorem mr_327_19 {X : Nat → Option zz_C} {h : zz_H} (hh : 111 ≤ h.length) {d : Nat} {N : Nat} {Q : Option Value → zz_H → Prop} {x0 : Int32} {x1 : Int32} {x2 : Int32} {x3 : Int32} {s s' : mS} {v : Option Value} (hf : mf_327_19 N x0 x1 x2 x3 s = some (s', v)) (k : Q v (mH h s')) : zz_E zp_P zt_tf zt_fd X (d + 0) zm_327 19 [(0, .int x0), (1, .int x1), (2, .int x2), (3, .int x3)] [] (mH h s) Q := by
  unfold mf_327_19 at hf
  refine mb_327_19 hh  (fun c => ?_) (fun c => ?_)
  · rw [if_pos c] at hf
    exact mr_327_215 hh hf k
  · rw [if_neg c] at hf
    exact mr_327_23 hh hf k
def mf_327_11 (N : Nat) (x0 : Int32) (x1 : Int32) (x2 : Int32) (x3 : Int32) (s : mS) : mO := if ¬ x0 = 27 then mf_327_19 N x0 x1 x2 x3 s else mf_327_17 N  s
theorem mr_327_11 {X : Nat → Option zz_C} {h : zz_H} (hh : 111 ≤ h.length) {d : Nat} {N : Nat} {Q : Option Value → zz_H → Prop} {x0 : Int32} {x1 : Int32} {x2 : Int32} {x3 : Int32} {s s' : mS} {v : Option Value} (hf : mf_327_11 N x0 x1 x2 x3 s = some (s', v)) (k : Q v (mH h s')) : zz_E zp_P zt_tf zt_fd X (d + 0) zm_327 11 [(0, .int x0), (1, .int x1), (2, .int x2), (3, .int x3)] [] (mH h s) Q := by
  unfold mf_327_11 at hf
  refine mb_327_11 hh  (fun c => ?_) (fun c => ?_)
  · rw [if_pos c] at hf
    exact mr_327_19 hh hf k
  · rw [if_neg c] at hf
    exact mr_327_17 hh hf k
def mf_327_5 (N : Nat) (x0 : Int32) (x1 : Int32) (x2 : Int32) (x3 : Int32) (s : mS) : mO := if x0 = 8 then mf_327_17 N  s else mf_327_11 N x0 x1 x2 x3 s
theorem mr_327_5 {X : Nat → Option zz_C} {h : zz_H} (hh : 111 ≤ h.length) {d : Nat} {N : Nat} {Q : Option Value → zz_H → Prop} {x0 : Int32} {x1 : Int32} {x2 : Int32} {x3 : Int32} {s s' : mS} {v : Option Value} (hf : mf_327_5 N x0 x1 x2 x3 s = some (s', v)) (k : Q v (mH h s')) : zz_E zp_P zt_tf zt_fd X (d + 0) zm_327 5 [(0, .int x0), (1, .int x1), (2, .int x2), (3, .int x3)] [] (mH h s) Q := by
  unfold mf_327_5 at hf
  refine mb_327_5 hh  (fun c => ?_) (fun c => ?_)
  · rw [if_pos c] at hf
    exact mr_327_17 hh hf k
  · rw [if_neg c] at hf
    exact mr_327_11 hh hf k
def mf_327_0 (N : Nat) (x0 : Int32) (x1 : Int32) (x2 : Int32) (x3 : Int32) (s : mS) : mO := if x0 = 5 then mf_327_17 N  s else mf_327_5 N x0 x1 x2 x3 s
theorem mr_327_0 {X : Nat → Option zz_C} {h : zz_H} (hh : 111 ≤ h.length) {d : Nat} {N : Nat} {Q : Option Value → zz_H → Prop} {x0 : Int32} {x1 : Int32} {x2 : Int32} {x3 : Int32} {s s' : mS} {v : Option Value} (hf : mf_327_0 N x0 x1 x2 x3 s = some (s', v)) (k : Q v (mH h s')) : zz_E zp_P zt_tf zt_fd X (d + 0) zm_327 0 [(0, .int x0), (1, .int x1), (2, .int x2), (3, .int x3)] [] (mH h s) Q := by
  unfold mf_327_0 at hf
  refine mb_327_0 hh  (fun c => ?_) (fun c => ?_)
  · rw [if_pos c] at hf
    exact mr_327_17 hh hf k
  · rw [if_neg c] at hf
    exact mr_327_5 hh hf k
/-- suits -/
def mf_327 (N : Nat) (x0 : Int32) (x1 : Int32) (x2 : Int32) (x3 : Int32) (s : mS) : mO := mf_327_0 N x0 x1 x2 x3 s
theorem mr_327 {X : Nat → Option zz_C} {h : zz_H} (hh : 111 ≤ h.length) {d : Nat} {N : Nat} {Q : Option Value → zz_H → Prop} {x0 : Int32} {x1 : Int32} {x2 : Int32} {x3 : Int32} {s s' : mS} {v : Option Value} (hf : mf_327 N x0 x1 x2 x3 s = some (s', v)) (k : Q v (mH h s')) : zz_E zp_P zt_tf zt_fd X (d + 0) zm_327 0 [(0, .int x0), (1, .int x1), (2, .int x2), (3, .int x3)] [] (mH h s) Q := by
  unfold mf_327 at hf
  exact zz_E.weak (mr_327_0 hh hf k) rfl ⟨rfl, rfl, rfl, rfl, trivial⟩
/-! zeros (I)V -/
theorem mb_329_0 {X : Nat → Option zz_C} {h : zz_H} (hh : 111 ≤ h.length) {s : mS} {d : Nat} {Q : Option Value → zz_H → Prop} {x1 : Int32} (k : zz_E zp_P zt_tf zt_fd X d zm_329 2 [(0, .ref 61), (1, .int x1), (2, .int 0)] [] (mH h s) Q) : zz_E zp_P zt_tf zt_fd X d zm_329 0 [(0, .ref 61), (1, .int x1)] [] (mH h s) Q := by
  refine zz_E.c 1 (.int 0) rfl rfl rfl rfl ?_
  refine zz_E.n 2 rfl rfl rfl ?_
  exact zz_E.weak k rfl ⟨rfl, rfl, rfl, trivial⟩
theorem mb_329_2 {X : Nat → Option zz_C} {h : zz_H} (hh : 111 ≤ h.length) {s : mS} {d : Nat} {Q : Option Value → zz_H → Prop} {x1 : Int32} {x2 : Int32} (k1 : x1 ≤ x2 → zz_E zp_P zt_tf zt_fd X d zm_329 19 [] [] (mH h s) Q) (k2 : ¬ x1 ≤ x2 → zz_E zp_P zt_tf zt_fd X d zm_329 7 [(0, .ref 61), (1, .int x1), (2, .int x2)] [] (mH h s) Q) : zz_E zp_P zt_tf zt_fd X d zm_329 2 [(0, .ref 61), (1, .int x1), (2, .int x2)] [] (mH h s) Q := by
  refine zz_E.n 3 rfl rfl rfl ?_
  refine zz_E.n 4 rfl rfl rfl ?_
  refine zz_E.b2 19 7 (A := x1 ≤ x2) rfl rfl (by decide) rfl rfl (fun c => ?_) (fun c => ?_)
  · exact zz_E.weak (k1 c) rfl trivial
  · exact zz_E.weak (k2 c) rfl ⟨rfl, rfl, rfl, trivial⟩
theorem mb_329_7 {X : Nat → Option zz_C} {h : zz_H} (hh : 111 ≤ h.length) {s : mS} {d : Nat} {Q : Option Value → zz_H → Prop} {x1 : Int32} {x2 : Int32} (k : zz_E zp_P zt_tf zt_fd X d zm_291 0 [(0, .ref 61), (1, .int 0), (2, .int 0)] [] (mH h s) (fun v h' => zz_E zp_P zt_tf zt_fd X (d + 1) zm_329 13 [(0, .ref 61), (1, .int x1), (2, .int x2)] (v.toList ++ []) h' Q)) : zz_E zp_P zt_tf zt_fd X (d + 1) zm_329 7 [(0, .ref 61), (1, .int x1), (2, .int x2)] [] (mH h s) Q := by
  refine zz_E.n 8 rfl rfl rfl ?_
  refine zz_E.c 9 (.int 0) rfl rfl rfl rfl ?_
  refine zz_E.c 10 (.int 0) rfl rfl rfl rfl ?_
  refine mE_cv hh 13 (as := []) rfl rfl (Nat.le_of_ble_eq_true rfl) (Nat.le_of_ble_eq_true rfl) rfl (Nat.le_of_ble_eq_true rfl) rfl ?_
  refine zz_E.mono k ?_
  intro v h' hE
  exact zz_E.weak hE rfl ⟨rfl, rfl, rfl, trivial⟩
theorem mb_329_13 {X : Nat → Option zz_C} {h : zz_H} (hh : 111 ≤ h.length) {s : mS} {d : Nat} {Q : Option Value → zz_H → Prop} {x1 : Int32} {x2 : Int32} (k : zz_E zp_P zt_tf zt_fd X d zm_329 2 [(0, .ref 61), (1, .int x1), (2, .int (x2 + 1))] [] (mH h s) Q) : zz_E zp_P zt_tf zt_fd X d zm_329 13 [(0, .ref 61), (1, .int x1), (2, .int x2)] [] (mH h s) Q := by
  refine zz_E.n 16 rfl rfl rfl ?_
  refine zz_E.n 2 rfl rfl rfl ?_
  exact zz_E.weak k rfl ⟨rfl, rfl, rfl, trivial⟩
theorem mb_329_19 {X : Nat → Option zz_C} {h : zz_H} (hh : 111 ≤ h.length) {s : mS} {d : Nat} {Q : Option Value → zz_H → Prop}  (k : Q none (mH h s)) : zz_E zp_P zt_tf zt_fd X d zm_329 19 [] [] (mH h s) Q := by
  refine zz_E.ret rfl rfl rfl ?_
  exact k
def mf_329_19 (N : Nat)  (s : mS) : mO := some (s, none)
theorem mr_329_19 {X : Nat → Option zz_C} {h : zz_H} (hh : 111 ≤ h.length) {d : Nat} {N : Nat} {Q : Option Value → zz_H → Prop}  {s s' : mS} {v : Option Value} (hf : mf_329_19 N  s = some (s', v)) (k : Q v (mH h s')) : zz_E zp_P zt_tf zt_fd X (d + 1) zm_329 19 [] [] (mH h s) Q := by
  unfold mf_329_19 at hf
  cases hf
  exact mb_329_19 hh  k
def mf_329_13 (N : Nat) (rc : Nat → Int32 → Int32 → mS → mO) (x1 : Int32) (x2 : Int32) (s : mS) : mO := rc 0 x1 (x2 + 1) s
theorem mr_329_13 {X : Nat → Option zz_C} {h : zz_H} (hh : 111 ≤ h.length) {d : Nat} {N : Nat} {rc : Nat → Int32 → Int32 → mS → mO} (hrc0 : ∀ {Q : Option Value → zz_H → Prop} {x1 : Int32} {x2 : Int32} {s s' : mS} {v : Option Value}, rc 0 x1 x2 s = some (s', v) → Q v (mH h s') → zz_E zp_P zt_tf zt_fd X (d + 1) zm_329 2 [(0, .ref 61), (1, .int x1), (2, .int x2)] [] (mH h s) Q) {Q : Option Value → zz_H → Prop} {x1 : Int32} {x2 : Int32} {s s' : mS} {v : Option Value} (hf : mf_329_13 N rc x1 x2 s = some (s', v)) (k : Q v (mH h s')) : zz_E zp_P zt_tf zt_fd X (d + 1) zm_329 13 [(0, .ref 61), (1, .int x1), (2, .int x2)] [] (mH h s) Q := by
  unfold mf_329_13 at hf
  exact mb_329_13 hh  (hrc0 hf k)
def mf_329_7 (N : Nat) (rc : Nat → Int32 → Int32 → mS → mO) (x1 : Int32) (x2 : Int32) (s : mS) : mO := mo_bv (mf_291 N 0 0 s) (fun s1 => mf_329_13 N rc x1 x2 s1)
theorem mr_329_7 {X : Nat → Option zz_C} {h : zz_H} (hh : 111 ≤ h.length) {d : Nat} {N : Nat} {rc : Nat → Int32 → Int32 → mS → mO} (hrc0 : ∀ {Q : Option Value → zz_H → Prop} {x1 : Int32} {x2 : Int32} {s s' : mS} {v : Option Value}, rc 0 x1 x2 s = some (s', v) → Q v (mH h s') → zz_E zp_P zt_tf zt_fd X (d + 1) zm_329 2 [(0, .ref 61), (1, .int x1), (2, .int x2)] [] (mH h s) Q) {Q : Option Value → zz_H → Prop} {x1 : Int32} {x2 : Int32} {s s' : mS} {v : Option Value} (hf : mf_329_7 N rc x1 x2 s = some (s', v)) (k : Q v (mH h s')) : zz_E zp_P zt_tf zt_fd X (d + 1) zm_329 7 [(0, .ref 61), (1, .int x1), (2, .int x2)] [] (mH h s) Q := by
  unfold mf_329_7 at hf
  obtain ⟨s1, e, hf⟩ := mo_bv_ok hf
  exact mb_329_7 (d := d + 0) hh  (mr_291 (d := d + 0) hh e (mr_329_13 hh hrc0 hf k))
def mf_329_2 (N : Nat) (rc : Nat → Int32 → Int32 → mS → mO) (x1 : Int32) (x2 : Int32) (s : mS) : mO := if x1 ≤ x2 then mf_329_19 N  s else mf_329_7 N rc x1 x2 s
theorem mr_329_2 {X : Nat → Option zz_C} {h : zz_H} (hh : 111 ≤ h.length) {d : Nat} {N : Nat} {rc : Nat → Int32 → Int32 → mS → mO} (hrc0 : ∀ {Q : Option Value → zz_H → Prop} {x1 : Int32} {x2 : Int32} {s s' : mS} {v : Option Value}, rc 0 x1 x2 s = some (s', v) → Q v (mH h s') → zz_E zp_P zt_tf zt_fd X (d + 1) zm_329 2 [(0, .ref 61), (1, .int x1), (2, .int x2)] [] (mH h s) Q) {Q : Option Value → zz_H → Prop} {x1 : Int32} {x2 : Int32} {s s' : mS} {v : Option Value} (hf : mf_329_2 N rc x1 x2 s = some (s', v)) (k : Q v (mH h s')) : zz_E zp_P zt_tf zt_fd X (d + 1) zm_329 2 [(0, .ref 61), (1, .int x1), (2, .int x2)] [] (mH h s) Q := by
  unfold mf_329_2 at hf
  refine mb_329_2 hh  (fun c => ?_) (fun c => ?_)
  · rw [if_pos c] at hf
    exact mr_329_19 hh hf k
  · rw [if_neg c] at hf
    exact mr_329_7 hh hrc0 hf k
def mf_329_L1 (N : Nat) : Nat → Nat → Int32 → Int32 → mS → mO
  | 0, _, _, _, _ => none
  | n + 1, l, x1, x2, s => if l = 0 then mf_329_2 N (mf_329_L1 N n) x1 x2 s else none
theorem mr_329_L1 {X : Nat → Option zz_C} {h : zz_H} (hh : 111 ≤ h.length) {d : Nat} {N : Nat} : ∀ n : Nat, (∀ {Q : Option Value → zz_H → Prop} {x1 : Int32} {x2 : Int32} {s s' : mS} {v : Option Value}, mf_329_L1 N n 0 x1 x2 s = some (s', v) → Q v (mH h s') → zz_E zp_P zt_tf zt_fd X (d + 1) zm_329 2 [(0, .ref 61), (1, .int x1), (2, .int x2)] [] (mH h s) Q) := by
  intro n
  induction n with
  | zero => exact (fun hf _ => by cases hf)
  | succ n ih =>
    have h0 := @ih
    intro Q _ _ s s' v hf k
    unfold mf_329_L1 at hf
    rw [if_pos rfl] at hf
    exact mr_329_2 hh h0 hf k
def mf_329_0 (N : Nat) (x1 : Int32) (s : mS) : mO := mf_329_L1 N N 0 x1 0 s
theorem mr_329_0 {X : Nat → Option zz_C} {h : zz_H} (hh : 111 ≤ h.length) {d : Nat} {N : Nat} {Q : Option Value → zz_H → Prop} {x1 : Int32} {s s' : mS} {v : Option Value} (hf : mf_329_0 N x1 s = some (s', v)) (k : Q v (mH h s')) : zz_E zp_P zt_tf zt_fd X (d + 1) zm_329 0 [(0, .ref 61), (1, .int x1)] [] (mH h s) Q := by
  unfold mf_329_0 at hf
  exact mb_329_0 hh  (mr_329_L1 hh N hf k)
/-- zeros -/
def mf_329 (N : Nat) (x1 : Int32) (s : mS) : mO := mf_329_0 N x1 s
theorem mr_329 {X : Nat → Option zz_C} {h : zz_H} (hh : 111 ≤ h.length) {d : Nat} {N : Nat} {Q : Option Value → zz_H → Prop} {x1 : Int32} {s s' : mS} {v : Option Value} (hf : mf_329 N x1 s = some (s', v)) (k : Q v (mH h s')) : zz_E zp_P zt_tf zt_fd X (d + 1) zm_329 0 [(0, .ref 61), (1, .int x1)] [] (mH h s) Q := by
  unfold mf_329 at hf
  exact zz_E.weak (mr_329_0 hh hf k) rfl ⟨rfl, rfl, trivial⟩
