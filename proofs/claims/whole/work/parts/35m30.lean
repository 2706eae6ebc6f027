/-! run (III)I -/
theorem mb_68_0 {X : Nat → Option zz_C} {h : zz_H} (hh : 111 ≤ h.length) {s : mS} {d : Nat} {Q : Option Value → zz_H → Prop} {x1 : Int32} {x2 : Int32} {x3 : Int32} (k1 : (s.1 13) = 0 → zz_E zp_P zt_tf zt_fd X d zm_68 59 [] [] (mH h s) Q) (k2 : ¬ (s.1 13) = 0 → zz_E zp_P zt_tf zt_fd X d zm_68 7 [(0, .ref 61), (1, .int x1), (2, .int x2), (3, .int x3)] [] (mH h s) Q) : zz_E zp_P zt_tf zt_fd X d zm_68 0 [(0, .ref 61), (1, .int x1), (2, .int x2), (3, .int x3)] [] (mH h s) Q := by
  refine zz_E.n 1 rfl rfl rfl ?_
  refine mE_g hh 4 (v := .int (s.1 13)) rfl rfl rfl ?_
  refine zz_E.b1 59 7 (A := (s.1 13) = 0) rfl rfl (by decide) rfl rfl (fun c => ?_) (fun c => ?_)
  · exact zz_E.weak (k1 c) rfl trivial
  · exact zz_E.weak (k2 c) rfl ⟨rfl, rfl, rfl, rfl, trivial⟩
theorem mb_68_7 {X : Nat → Option zz_C} {h : zz_H} (hh : 111 ≤ h.length) {s : mS} {d : Nat} {Q : Option Value → zz_H → Prop} {x1 : Int32} {x2 : Int32} {x3 : Int32} (k1 : x1 < 0 → zz_E zp_P zt_tf zt_fd X d zm_68 59 [] [] (mH h s) Q) (k2 : ¬ x1 < 0 → zz_E zp_P zt_tf zt_fd X d zm_68 11 [(0, .ref 61), (1, .int x1), (2, .int x2), (3, .int x3)] [] (mH h s) Q) : zz_E zp_P zt_tf zt_fd X d zm_68 7 [(0, .ref 61), (1, .int x1), (2, .int x2), (3, .int x3)] [] (mH h s) Q := by
  refine zz_E.n 8 rfl rfl rfl ?_
  refine zz_E.b1 59 11 (A := x1 < 0) rfl rfl (by decide) rfl rfl (fun c => ?_) (fun c => ?_)
  · exact zz_E.weak (k1 c) rfl trivial
  · exact zz_E.weak (k2 c) rfl ⟨rfl, rfl, rfl, rfl, trivial⟩
theorem mb_68_11 {X : Nat → Option zz_C} {h : zz_H} (hh : 111 ≤ h.length) {s : mS} {d : Nat} {Q : Option Value → zz_H → Prop} {x1 : Int32} {x2 : Int32} {x3 : Int32} (k1 : (s.1 14) ≤ x1 → zz_E zp_P zt_tf zt_fd X d zm_68 59 [] [] (mH h s) Q) (k2 : ¬ (s.1 14) ≤ x1 → zz_E zp_P zt_tf zt_fd X d zm_68 19 [(0, .ref 61), (1, .int x1), (2, .int x2), (3, .int x3)] [] (mH h s) Q) : zz_E zp_P zt_tf zt_fd X d zm_68 11 [(0, .ref 61), (1, .int x1), (2, .int x2), (3, .int x3)] [] (mH h s) Q := by
  refine zz_E.n 12 rfl rfl rfl ?_
  refine zz_E.n 13 rfl rfl rfl ?_
  refine mE_g hh 16 (v := .int (s.1 14)) rfl rfl rfl ?_
  refine zz_E.b2 59 19 (A := (s.1 14) ≤ x1) rfl rfl (by decide) rfl rfl (fun c => ?_) (fun c => ?_)
  · exact zz_E.weak (k1 c) rfl trivial
  · exact zz_E.weak (k2 c) rfl ⟨rfl, rfl, rfl, rfl, trivial⟩
theorem mb_68_19 {X : Nat → Option zz_C} {h : zz_H} (hh : 111 ≤ h.length) {s : mS} {d : Nat} {Q : Option Value → zz_H → Prop} {x1 : Int32} {x2 : Int32} {x3 : Int32} (i32 : ¬ (((12 * (s.1 12)) + x1) < 0 ∨ 24 ≤ Int32.toNatClampNeg ((12 * (s.1 12)) + x1))) (k1 : ¬ ((s.2.2.1 18) (Int32.toNatClampNeg ((12 * (s.1 12)) + x1))) = 0 → zz_E zp_P zt_tf zt_fd X d zm_68 59 [] [] (mH h s) Q) (k2 : ¬ ¬ ((s.2.2.1 18) (Int32.toNatClampNeg ((12 * (s.1 12)) + x1))) = 0 → zz_E zp_P zt_tf zt_fd X d zm_68 36 [(0, .ref 61), (1, .int x1), (2, .int x2), (3, .int x3)] [] (mH h s) Q) : zz_E zp_P zt_tf zt_fd X d zm_68 19 [(0, .ref 61), (1, .int x1), (2, .int x2), (3, .int x3)] [] (mH h s) Q := by
  refine zz_E.n 20 rfl rfl rfl ?_
  refine mE_g hh 23 (v := .ref 67) rfl rfl rfl ?_
  refine zz_E.c 25 (.int 12) rfl rfl rfl rfl ?_
  refine zz_E.n 26 rfl rfl rfl ?_
  refine mE_g hh 29 (v := .int (s.1 12)) rfl rfl rfl ?_
  refine zz_E.n 30 rfl rfl rfl ?_
  refine zz_E.n 31 rfl rfl rfl ?_
  refine zz_E.n 32 rfl rfl rfl ?_
  refine mE_ia hh 33 6 (f := (s.2.2.1 18)) rfl (by decide) rfl rfl i32 rfl ?_
  refine zz_E.b1 59 36 (A := ¬ ((s.2.2.1 18) (Int32.toNatClampNeg ((12 * (s.1 12)) + x1))) = 0) rfl (zz_cond_ne _ _) (by decide) rfl rfl (fun c => ?_) (fun c => ?_)
  · exact zz_E.weak (k1 c) rfl trivial
  · exact zz_E.weak (k2 c) rfl ⟨rfl, rfl, rfl, rfl, trivial⟩
theorem mb_68_36 {X : Nat → Option zz_C} {h : zz_H} (hh : 111 ≤ h.length) {s : mS} {d : Nat} {Q : Option Value → zz_H → Prop} {x1 : Int32} {x2 : Int32} {x3 : Int32} (k1 : x2 < (-1) → zz_E zp_P zt_tf zt_fd X d zm_68 59 [] [] (mH h s) Q) (k2 : ¬ x2 < (-1) → zz_E zp_P zt_tf zt_fd X d zm_68 41 [(0, .ref 61), (1, .int x1), (2, .int x2), (3, .int x3)] [] (mH h s) Q) : zz_E zp_P zt_tf zt_fd X d zm_68 36 [(0, .ref 61), (1, .int x1), (2, .int x2), (3, .int x3)] [] (mH h s) Q := by
  refine zz_E.n 37 rfl rfl rfl ?_
  refine zz_E.c 38 (.int (-1)) rfl rfl rfl rfl ?_
  refine zz_E.b2 59 41 (A := x2 < (-1)) rfl rfl (by decide) rfl rfl (fun c => ?_) (fun c => ?_)
  · exact zz_E.weak (k1 c) rfl trivial
  · exact zz_E.weak (k2 c) rfl ⟨rfl, rfl, rfl, rfl, trivial⟩
theorem mb_68_41 {X : Nat → Option zz_C} {h : zz_H} (hh : 111 ≤ h.length) {s : mS} {d : Nat} {Q : Option Value → zz_H → Prop} {x1 : Int32} {x2 : Int32} {x3 : Int32} (k1 : 7 < x2 → zz_E zp_P zt_tf zt_fd X d zm_68 59 [] [] (mH h s) Q) (k2 : ¬ 7 < x2 → zz_E zp_P zt_tf zt_fd X d zm_68 47 [(0, .ref 61), (1, .int x1), (2, .int x2), (3, .int x3)] [] (mH h s) Q) : zz_E zp_P zt_tf zt_fd X d zm_68 41 [(0, .ref 61), (1, .int x1), (2, .int x2), (3, .int x3)] [] (mH h s) Q := by
  refine zz_E.n 42 rfl rfl rfl ?_
  refine zz_E.c 44 (.int 7) rfl rfl rfl rfl ?_
  refine zz_E.b2 59 47 (A := 7 < x2) rfl rfl (by decide) rfl rfl (fun c => ?_) (fun c => ?_)
  · exact zz_E.weak (k1 c) rfl trivial
  · exact zz_E.weak (k2 c) rfl ⟨rfl, rfl, rfl, rfl, trivial⟩
theorem mb_68_47 {X : Nat → Option zz_C} {h : zz_H} (hh : 111 ≤ h.length) {s : mS} {d : Nat} {Q : Option Value → zz_H → Prop} {x1 : Int32} {x2 : Int32} {x3 : Int32} (k1 : x3 < 1 → zz_E zp_P zt_tf zt_fd X d zm_68 59 [] [] (mH h s) Q) (k2 : ¬ x3 < 1 → zz_E zp_P zt_tf zt_fd X d zm_68 52 [(0, .ref 61), (1, .int x1), (2, .int x2), (3, .int x3)] [] (mH h s) Q) : zz_E zp_P zt_tf zt_fd X d zm_68 47 [(0, .ref 61), (1, .int x1), (2, .int x2), (3, .int x3)] [] (mH h s) Q := by
  refine zz_E.n 48 rfl rfl rfl ?_
  refine zz_E.c 49 (.int 1) rfl rfl rfl rfl ?_
  refine zz_E.b2 59 52 (A := x3 < 1) rfl rfl (by decide) rfl rfl (fun c => ?_) (fun c => ?_)
  · exact zz_E.weak (k1 c) rfl trivial
  · exact zz_E.weak (k2 c) rfl ⟨rfl, rfl, rfl, rfl, trivial⟩
theorem mb_68_52 {X : Nat → Option zz_C} {h : zz_H} (hh : 111 ≤ h.length) {s : mS} {d : Nat} {Q : Option Value → zz_H → Prop} {x1 : Int32} {x2 : Int32} {x3 : Int32} (k1 : x3 ≤ 20000 → zz_E zp_P zt_tf zt_fd X d zm_68 61 [(0, .ref 61), (1, .int x1), (2, .int x2), (3, .int x3)] [] (mH h s) Q) (k2 : ¬ x3 ≤ 20000 → zz_E zp_P zt_tf zt_fd X d zm_68 59 [] [] (mH h s) Q) : zz_E zp_P zt_tf zt_fd X d zm_68 52 [(0, .ref 61), (1, .int x1), (2, .int x2), (3, .int x3)] [] (mH h s) Q := by
  refine zz_E.n 53 rfl rfl rfl ?_
  refine zz_E.c 56 (.int 20000) rfl rfl rfl rfl ?_
  refine zz_E.b2 61 59 (A := x3 ≤ 20000) rfl rfl (by decide) rfl rfl (fun c => ?_) (fun c => ?_)
  · exact zz_E.weak (k1 c) rfl ⟨rfl, rfl, rfl, rfl, trivial⟩
  · exact zz_E.weak (k2 c) rfl trivial
theorem mb_68_59 {X : Nat → Option zz_C} {h : zz_H} (hh : 111 ≤ h.length) {s : mS} {d : Nat} {Q : Option Value → zz_H → Prop}  (k : Q (some (.int (-1))) (mH h s)) : zz_E zp_P zt_tf zt_fd X d zm_68 59 [] [] (mH h s) Q := by
  refine zz_E.c 60 (.int (-1)) rfl rfl rfl rfl ?_
  refine zz_E.ret rfl rfl rfl ?_
  exact k
theorem mb_68_61 {X : Nat → Option zz_C} {h : zz_H} (hh : 111 ≤ h.length) {s : mS} {d : Nat} {Q : Option Value → zz_H → Prop} {x1 : Int32} {x2 : Int32} {x3 : Int32} (i141 : ¬ ((154240 : Int32) < 0 ∨ 166300 ≤ Int32.toNatClampNeg (154240 : Int32))) (i150 : ¬ ((154241 : Int32) < 0 ∨ 166300 ≤ Int32.toNatClampNeg (154241 : Int32))) (k : zz_E zp_P zt_tf zt_fd X d zm_68 154 [(0, .ref 61), (1, .int x1), (2, .int x2), (4, .int 0)] [] (mH h (mA (mA (mI (mI (mI (mI (mI (mI (mI (mI (mI (mI (mI (mI (mI (mI s 68 1) 60 0) 61 x3) 62 0) 63 0) 64 0) 65 0) 66 0) 67 (-1)) 87 0) 51 0) 79 0) 73 0) 48 154250) 47 (upd (s.2.2.1 47) (Int32.toNatClampNeg (154240 : Int32)) 1)) 47 (upd (upd (s.2.2.1 47) (Int32.toNatClampNeg (154240 : Int32)) 1) (Int32.toNatClampNeg (154241 : Int32)) 0))) Q) : zz_E zp_P zt_tf zt_fd X d zm_68 61 [(0, .ref 61), (1, .int x1), (2, .int x2), (3, .int x3)] [] (mH h s) Q := by
  refine zz_E.n 62 rfl rfl rfl ?_
  refine zz_E.c 63 (.int 1) rfl rfl rfl rfl ?_
  refine mE_p hh 66 rfl (by decide) rfl (mF_68 _ _) rfl ?_
  refine zz_E.n 67 rfl rfl rfl ?_
  refine zz_E.c 68 (.int 0) rfl rfl rfl rfl ?_
  refine mE_p hh 71 rfl (by decide) rfl (mF_60 _ _) rfl ?_
  refine zz_E.n 72 rfl rfl rfl ?_
  refine zz_E.n 73 rfl rfl rfl ?_
  refine mE_p hh 76 rfl (by decide) rfl (mF_61 _ _) rfl ?_
  refine zz_E.n 77 rfl rfl rfl ?_
  refine zz_E.c 78 (.int 0) rfl rfl rfl rfl ?_
  refine mE_p hh 81 rfl (by decide) rfl (mF_62 _ _) rfl ?_
  refine zz_E.n 82 rfl rfl rfl ?_
  refine zz_E.c 83 (.int 0) rfl rfl rfl rfl ?_
  refine mE_p hh 86 rfl (by decide) rfl (mF_63 _ _) rfl ?_
  refine zz_E.n 87 rfl rfl rfl ?_
  refine zz_E.c 88 (.int 0) rfl rfl rfl rfl ?_
  refine mE_p hh 91 rfl (by decide) rfl (mF_64 _ _) rfl ?_
  refine zz_E.n 92 rfl rfl rfl ?_
  refine zz_E.c 93 (.int 0) rfl rfl rfl rfl ?_
  refine mE_p hh 96 rfl (by decide) rfl (mF_65 _ _) rfl ?_
  refine zz_E.n 97 rfl rfl rfl ?_
  refine zz_E.c 98 (.int 0) rfl rfl rfl rfl ?_
  refine mE_p hh 101 rfl (by decide) rfl (mF_66 _ _) rfl ?_
  refine zz_E.n 102 rfl rfl rfl ?_
  refine zz_E.c 103 (.int (-1)) rfl rfl rfl rfl ?_
  refine mE_p hh 106 rfl (by decide) rfl (mF_67 _ _) rfl ?_
  refine zz_E.n 107 rfl rfl rfl ?_
  refine zz_E.c 108 (.int 0) rfl rfl rfl rfl ?_
  refine mE_p hh 111 rfl (by decide) rfl (mF_87 _ _) rfl ?_
  refine zz_E.n 112 rfl rfl rfl ?_
  refine zz_E.c 113 (.int 0) rfl rfl rfl rfl ?_
  refine mE_p hh 116 rfl (by decide) rfl (mF_51 _ _) rfl ?_
  refine zz_E.n 117 rfl rfl rfl ?_
  refine zz_E.c 118 (.int 0) rfl rfl rfl rfl ?_
  refine mE_p hh 121 rfl (by decide) rfl (mF_79 _ _) rfl ?_
  refine zz_E.n 122 rfl rfl rfl ?_
  refine zz_E.c 123 (.int 0) rfl rfl rfl rfl ?_
  refine mE_p hh 126 rfl (by decide) rfl (mF_73 _ _) rfl ?_
  refine zz_E.n 127 rfl rfl rfl ?_
  refine zz_E.c 130 (.int 154250) rfl rfl rfl rfl ?_
  refine mE_p hh 133 rfl (by decide) rfl (mF_48 _ _) rfl ?_
  refine zz_E.n 134 rfl rfl rfl ?_
  refine mE_g hh 137 (v := .ref 89) rfl rfl rfl ?_
  refine zz_E.c 140 (.int 154240) rfl rfl rfl rfl ?_
  refine zz_E.c 141 (.int 1) rfl rfl rfl rfl ?_
  refine mE_is hh 142 28 (f := (s.2.2.1 47)) rfl (by decide) rfl rfl i141 (mA_89 _ _) rfl ?_
  refine zz_E.n 143 rfl rfl rfl ?_
  refine mE_g hh 146 (v := .ref 89) rfl rfl rfl ?_
  refine zz_E.c 149 (.int 154241) rfl rfl rfl rfl ?_
  refine zz_E.c 150 (.int 0) rfl rfl rfl rfl ?_
  refine mE_is hh 151 28 (f := (upd (s.2.2.1 47) (Int32.toNatClampNeg (154240 : Int32)) 1)) rfl (by decide) rfl rfl i150 (mA_89 _ _) rfl ?_
  refine zz_E.c 152 (.int 0) rfl rfl rfl rfl ?_
  refine zz_E.n 154 rfl rfl rfl ?_
  exact zz_E.weak k rfl ⟨rfl, rfl, rfl, rfl, trivial⟩
theorem mb_68_154 {X : Nat → Option zz_C} {h : zz_H} (hh : 111 ≤ h.length) {s : mS} {d : Nat} {Q : Option Value → zz_H → Prop} {x1 : Int32} {x2 : Int32} {x4 : Int32} (k1 : 8 ≤ x4 → zz_E zp_P zt_tf zt_fd X d zm_68 243 [(0, .ref 61), (1, .int x1), (2, .int x2)] [] (mH h s) Q) (k2 : ¬ 8 ≤ x4 → zz_E zp_P zt_tf zt_fd X d zm_68 161 [(0, .ref 61), (1, .int x1), (2, .int x2), (4, .int x4)] [] (mH h s) Q) : zz_E zp_P zt_tf zt_fd X d zm_68 154 [(0, .ref 61), (1, .int x1), (2, .int x2), (4, .int x4)] [] (mH h s) Q := by
  refine zz_E.n 156 rfl rfl rfl ?_
  refine zz_E.c 158 (.int 8) rfl rfl rfl rfl ?_
  refine zz_E.b2 243 161 (A := 8 ≤ x4) rfl rfl (by decide) rfl rfl (fun c => ?_) (fun c => ?_)
  · exact zz_E.weak (k1 c) rfl ⟨rfl, rfl, rfl, trivial⟩
  · exact zz_E.weak (k2 c) rfl ⟨rfl, rfl, rfl, rfl, trivial⟩
theorem mb_68_161 {X : Nat → Option zz_C} {h : zz_H} (hh : 111 ≤ h.length) {s : mS} {d : Nat} {Q : Option Value → zz_H → Prop} {x1 : Int32} {x2 : Int32} {x4 : Int32} (i181 : ¬ ((2410 * x4) < 0 ∨ 166300 ≤ Int32.toNatClampNeg (2410 * x4))) (k1 : ¬ ((s.2.2.1 47) (Int32.toNatClampNeg (2410 * x4))) = (-1) → zz_E zp_P zt_tf zt_fd X d zm_68 190 [(0, .ref 61), (1, .int x1), (2, .int x2), (4, .int x4), (5, .int (2410 * x4))] [.int x4, .ref 97] (mH h s) Q) (k2 : ¬ ¬ ((s.2.2.1 47) (Int32.toNatClampNeg (2410 * x4))) = (-1) → zz_E zp_P zt_tf zt_fd X d zm_68 186 [(0, .ref 61), (1, .int x1), (2, .int x2), (4, .int x4), (5, .int (2410 * x4))] [.int x4, .ref 97] (mH h s) Q) : zz_E zp_P zt_tf zt_fd X d zm_68 161 [(0, .ref 61), (1, .int x1), (2, .int x2), (4, .int x4)] [] (mH h s) Q := by
  refine zz_E.c 164 (.int 2410) rfl rfl rfl rfl ?_
  refine zz_E.n 166 rfl rfl rfl ?_
  refine zz_E.n 167 rfl rfl rfl ?_
  refine zz_E.n 169 rfl rfl rfl ?_
  refine zz_E.n 170 rfl rfl rfl ?_
  refine mE_g hh 173 (v := .ref 97) rfl rfl rfl ?_
  refine zz_E.n 175 rfl rfl rfl ?_
  refine zz_E.n 176 rfl rfl rfl ?_
  refine mE_g hh 179 (v := .ref 89) rfl rfl rfl ?_
  refine zz_E.n 181 rfl rfl rfl ?_
  refine mE_ia hh 182 28 (f := (s.2.2.1 47)) rfl (by decide) rfl rfl i181 rfl ?_
  refine zz_E.c 183 (.int (-1)) rfl rfl rfl rfl ?_
  refine zz_E.b2 190 186 (A := ¬ ((s.2.2.1 47) (Int32.toNatClampNeg (2410 * x4))) = (-1)) rfl (zz_cond_ne _ _) (by decide) rfl rfl (fun c => ?_) (fun c => ?_)
  · exact zz_E.weak (k1 c) rfl ⟨rfl, rfl, rfl, rfl, rfl, trivial⟩
  · exact zz_E.weak (k2 c) rfl ⟨rfl, rfl, rfl, rfl, rfl, trivial⟩
theorem mb_68_186 {X : Nat → Option zz_C} {h : zz_H} (hh : 111 ≤ h.length) {s : mS} {d : Nat} {Q : Option Value → zz_H → Prop} {x1 : Int32} {x2 : Int32} {x4 : Int32} {x5 : Int32} {y1 : Int32} (k : zz_E zp_P zt_tf zt_fd X d zm_68 205 [(0, .ref 61), (1, .int x1), (2, .int x2), (4, .int x4), (5, .int x5)] [.int 2, .int y1, .ref 97] (mH h s) Q) : zz_E zp_P zt_tf zt_fd X d zm_68 186 [(0, .ref 61), (1, .int x1), (2, .int x2), (4, .int x4), (5, .int x5)] [.int y1, .ref 97] (mH h s) Q := by
  refine zz_E.c 187 (.int 2) rfl rfl rfl rfl ?_
  refine zz_E.n 205 rfl rfl rfl ?_
  exact zz_E.weak k rfl ⟨rfl, rfl, rfl, rfl, rfl, trivial⟩
theorem mb_68_190 {X : Nat → Option zz_C} {h : zz_H} (hh : 111 ≤ h.length) {s : mS} {d : Nat} {Q : Option Value → zz_H → Prop} {x1 : Int32} {x2 : Int32} {x4 : Int32} {x5 : Int32} {y1 : Int32} (i196 : ¬ (x5 < 0 ∨ 166300 ≤ Int32.toNatClampNeg x5)) (k1 : ¬ ((s.2.2.1 47) (Int32.toNatClampNeg x5)) = 0 → zz_E zp_P zt_tf zt_fd X d zm_68 204 [(0, .ref 61), (1, .int x1), (2, .int x2), (4, .int x4), (5, .int x5)] [.int y1, .ref 97] (mH h s) Q) (k2 : ¬ ¬ ((s.2.2.1 47) (Int32.toNatClampNeg x5)) = 0 → zz_E zp_P zt_tf zt_fd X d zm_68 200 [(0, .ref 61), (1, .int x1), (2, .int x2), (4, .int x4), (5, .int x5)] [.int y1, .ref 97] (mH h s) Q) : zz_E zp_P zt_tf zt_fd X d zm_68 190 [(0, .ref 61), (1, .int x1), (2, .int x2), (4, .int x4), (5, .int x5)] [.int y1, .ref 97] (mH h s) Q := by
  refine zz_E.n 191 rfl rfl rfl ?_
  refine mE_g hh 194 (v := .ref 89) rfl rfl rfl ?_
  refine zz_E.n 196 rfl rfl rfl ?_
  refine mE_ia hh 197 28 (f := (s.2.2.1 47)) rfl (by decide) rfl rfl i196 rfl ?_
  refine zz_E.b1 204 200 (A := ¬ ((s.2.2.1 47) (Int32.toNatClampNeg x5)) = 0) rfl (zz_cond_ne _ _) (by decide) rfl rfl (fun c => ?_) (fun c => ?_)
  · exact zz_E.weak (k1 c) rfl ⟨rfl, rfl, rfl, rfl, rfl, trivial⟩
  · exact zz_E.weak (k2 c) rfl ⟨rfl, rfl, rfl, rfl, rfl, trivial⟩
theorem mb_68_200 {X : Nat → Option zz_C} {h : zz_H} (hh : 111 ≤ h.length) {s : mS} {d : Nat} {Q : Option Value → zz_H → Prop} {x1 : Int32} {x2 : Int32} {x4 : Int32} {x5 : Int32} {y1 : Int32} (k : zz_E zp_P zt_tf zt_fd X d zm_68 205 [(0, .ref 61), (1, .int x1), (2, .int x2), (4, .int x4), (5, .int x5)] [.int 0, .int y1, .ref 97] (mH h s) Q) : zz_E zp_P zt_tf zt_fd X d zm_68 200 [(0, .ref 61), (1, .int x1), (2, .int x2), (4, .int x4), (5, .int x5)] [.int y1, .ref 97] (mH h s) Q := by
  refine zz_E.c 201 (.int 0) rfl rfl rfl rfl ?_
  refine zz_E.n 205 rfl rfl rfl ?_
  exact zz_E.weak k rfl ⟨rfl, rfl, rfl, rfl, rfl, trivial⟩
theorem mb_68_204 {X : Nat → Option zz_C} {h : zz_H} (hh : 111 ≤ h.length) {s : mS} {d : Nat} {Q : Option Value → zz_H → Prop} {x1 : Int32} {x2 : Int32} {x4 : Int32} {x5 : Int32} {y1 : Int32} (k : zz_E zp_P zt_tf zt_fd X d zm_68 205 [(0, .ref 61), (1, .int x1), (2, .int x2), (4, .int x4), (5, .int x5)] [.int 1, .int y1, .ref 97] (mH h s) Q) : zz_E zp_P zt_tf zt_fd X d zm_68 204 [(0, .ref 61), (1, .int x1), (2, .int x2), (4, .int x4), (5, .int x5)] [.int y1, .ref 97] (mH h s) Q := by
  refine zz_E.c 205 (.int 1) rfl rfl rfl rfl ?_
  exact zz_E.weak k rfl ⟨rfl, rfl, rfl, rfl, rfl, trivial⟩
theorem mb_68_205 {X : Nat → Option zz_C} {h : zz_H} (hh : 111 ≤ h.length) {s : mS} {d : Nat} {Q : Option Value → zz_H → Prop} {x1 : Int32} {x2 : Int32} {x4 : Int32} {x5 : Int32} {y1 : Int32} {y2 : Int32} (i205 : ¬ (y1 < 0 ∨ 8 ≤ Int32.toNatClampNeg y1)) (i218 : ¬ (x5 < 0 ∨ 166300 ≤ Int32.toNatClampNeg x5)) (k1 : ¬ ((s.2.2.1 47) (Int32.toNatClampNeg x5)) = 0 → zz_E zp_P zt_tf zt_fd X d zm_68 234 [(0, .ref 61), (1, .int x1), (2, .int x2), (4, .int x4), (5, .int x5)] [.int x4, .ref 98] (mH h (mA s 71 (upd (s.2.2.1 71) (Int32.toNatClampNeg y1) y2))) Q) (k2 : ¬ ¬ ((s.2.2.1 47) (Int32.toNatClampNeg x5)) = 0 → zz_E zp_P zt_tf zt_fd X d zm_68 222 [(0, .ref 61), (1, .int x1), (2, .int x2), (4, .int x4), (5, .int x5)] [.int x4, .ref 98] (mH h (mA s 71 (upd (s.2.2.1 71) (Int32.toNatClampNeg y1) y2))) Q) : zz_E zp_P zt_tf zt_fd X d zm_68 205 [(0, .ref 61), (1, .int x1), (2, .int x2), (4, .int x4), (5, .int x5)] [.int y2, .int y1, .ref 97] (mH h s) Q := by
  refine mE_is hh 206 36 (f := (s.2.2.1 71)) rfl (by decide) rfl rfl i205 (mA_97 _ _) rfl ?_
  refine zz_E.n 207 rfl rfl rfl ?_
  refine mE_g hh 210 (v := .ref 98) rfl rfl rfl ?_
  refine zz_E.n 212 rfl rfl rfl ?_
  refine zz_E.n 213 rfl rfl rfl ?_
  refine mE_g hh 216 (v := .ref 89) rfl rfl rfl ?_
  refine zz_E.n 218 rfl rfl rfl ?_
  refine mE_ia hh 219 28 (f := (s.2.2.1 47)) rfl (by decide) rfl rfl i218 rfl ?_
  refine zz_E.b1 234 222 (A := ¬ ((s.2.2.1 47) (Int32.toNatClampNeg x5)) = 0) rfl (zz_cond_ne _ _) (by decide) rfl rfl (fun c => ?_) (fun c => ?_)
  · exact zz_E.weak (k1 c) rfl ⟨rfl, rfl, rfl, rfl, rfl, trivial⟩
  · exact zz_E.weak (k2 c) rfl ⟨rfl, rfl, rfl, rfl, rfl, trivial⟩
theorem mb_68_222 {X : Nat → Option zz_C} {h : zz_H} (hh : 111 ≤ h.length) {s : mS} {d : Nat} {Q : Option Value → zz_H → Prop} {x1 : Int32} {x2 : Int32} {x4 : Int32} {x5 : Int32} {y1 : Int32} (i230 : ¬ ((x5 + 1) < 0 ∨ 166300 ≤ Int32.toNatClampNeg (x5 + 1))) (k : zz_E zp_P zt_tf zt_fd X d zm_68 236 [(0, .ref 61), (1, .int x1), (2, .int x2), (4, .int x4)] [.int ((s.2.2.1 47) (Int32.toNatClampNeg (x5 + 1))), .int y1, .ref 98] (mH h s) Q) : zz_E zp_P zt_tf zt_fd X d zm_68 222 [(0, .ref 61), (1, .int x1), (2, .int x2), (4, .int x4), (5, .int x5)] [.int y1, .ref 98] (mH h s) Q := by
  refine zz_E.n 223 rfl rfl rfl ?_
  refine mE_g hh 226 (v := .ref 89) rfl rfl rfl ?_
  refine zz_E.n 228 rfl rfl rfl ?_
  refine zz_E.c 229 (.int 1) rfl rfl rfl rfl ?_
  refine zz_E.n 230 rfl rfl rfl ?_
  refine mE_ia hh 231 28 (f := (s.2.2.1 47)) rfl (by decide) rfl rfl i230 rfl ?_
  refine zz_E.n 236 rfl rfl rfl ?_
  exact zz_E.weak k rfl ⟨rfl, rfl, rfl, rfl, trivial⟩
theorem mb_68_234 {X : Nat → Option zz_C} {h : zz_H} (hh : 111 ≤ h.length) {s : mS} {d : Nat} {Q : Option Value → zz_H → Prop} {x1 : Int32} {x2 : Int32} {x4 : Int32} {x5 : Int32} {y1 : Int32} (k : zz_E zp_P zt_tf zt_fd X d zm_68 236 [(0, .ref 61), (1, .int x1), (2, .int x2), (4, .int x4)] [.int x5, .int y1, .ref 98] (mH h s) Q) : zz_E zp_P zt_tf zt_fd X d zm_68 234 [(0, .ref 61), (1, .int x1), (2, .int x2), (4, .int x4), (5, .int x5)] [.int y1, .ref 98] (mH h s) Q := by
  refine zz_E.n 236 rfl rfl rfl ?_
  exact zz_E.weak k rfl ⟨rfl, rfl, rfl, rfl, trivial⟩
theorem mb_68_236 {X : Nat → Option zz_C} {h : zz_H} (hh : 111 ≤ h.length) {s : mS} {d : Nat} {Q : Option Value → zz_H → Prop} {x1 : Int32} {x2 : Int32} {x4 : Int32} {y1 : Int32} {y2 : Int32} (i236 : ¬ (y1 < 0 ∨ 8 ≤ Int32.toNatClampNeg y1)) (k : zz_E zp_P zt_tf zt_fd X d zm_68 154 [(0, .ref 61), (1, .int x1), (2, .int x2), (4, .int (x4 + 1))] [] (mH h (mA s 72 (upd (s.2.2.1 72) (Int32.toNatClampNeg y1) y2))) Q) : zz_E zp_P zt_tf zt_fd X d zm_68 236 [(0, .ref 61), (1, .int x1), (2, .int x2), (4, .int x4)] [.int y2, .int y1, .ref 98] (mH h s) Q := by
  refine mE_is hh 237 37 (f := (s.2.2.1 72)) rfl (by decide) rfl rfl i236 (mA_98 _ _) rfl ?_
  refine zz_E.n 240 rfl rfl rfl ?_
  refine zz_E.n 154 rfl rfl rfl ?_
  exact zz_E.weak k rfl ⟨rfl, rfl, rfl, rfl, trivial⟩
theorem mb_68_243 {X : Nat → Option zz_C} {h : zz_H} (hh : 111 ≤ h.length) {s : mS} {d : Nat} {Q : Option Value → zz_H → Prop} {x1 : Int32} {x2 : Int32} (k : zz_E zp_P zt_tf zt_fd X d zm_310 0 [(0, .ref 61), (1, .int ((12 * (s.1 12)) + x1)), (2, .int 0), (3, .int (-1))] [] (mH h s) (fun v h' => zz_E zp_P zt_tf zt_fd X (d + 1) zm_68 258 [(0, .ref 61), (2, .int x2)] (v.toList ++ []) h' Q)) : zz_E zp_P zt_tf zt_fd X (d + 1) zm_68 243 [(0, .ref 61), (1, .int x1), (2, .int x2)] [] (mH h s) Q := by
  refine zz_E.n 244 rfl rfl rfl ?_
  refine zz_E.c 246 (.int 12) rfl rfl rfl rfl ?_
  refine zz_E.n 247 rfl rfl rfl ?_
  refine mE_g hh 250 (v := .int (s.1 12)) rfl rfl rfl ?_
  refine zz_E.n 251 rfl rfl rfl ?_
  refine zz_E.n 252 rfl rfl rfl ?_
  refine zz_E.n 253 rfl rfl rfl ?_
  refine zz_E.c 254 (.int 0) rfl rfl rfl rfl ?_
  refine zz_E.c 255 (.int (-1)) rfl rfl rfl rfl ?_
  refine mE_cv hh 258 (as := []) rfl rfl (Nat.le_of_ble_eq_true rfl) (Nat.le_of_ble_eq_true rfl) rfl (Nat.le_of_ble_eq_true rfl) rfl ?_
  refine zz_E.mono k ?_
  intro v h' hE
  exact zz_E.weak hE rfl ⟨rfl, rfl, trivial⟩
theorem mb_68_258 {X : Nat → Option zz_C} {h : zz_H} (hh : 111 ≤ h.length) {s : mS} {d : Nat} {Q : Option Value → zz_H → Prop} {x2 : Int32} (k1 : (s.1 73) ≤ 0 → zz_E zp_P zt_tf zt_fd X d zm_68 320 [(0, .ref 61), (2, .int x2)] [] (mH h s) Q) (k2 : ¬ (s.1 73) ≤ 0 → zz_E zp_P zt_tf zt_fd X d zm_68 265 [(0, .ref 61), (2, .int x2)] [] (mH h s) Q) : zz_E zp_P zt_tf zt_fd X d zm_68 258 [(0, .ref 61), (2, .int x2)] [] (mH h s) Q := by
  refine zz_E.n 259 rfl rfl rfl ?_
  refine mE_g hh 262 (v := .int (s.1 73)) rfl rfl rfl ?_
  refine zz_E.b1 320 265 (A := (s.1 73) ≤ 0) rfl rfl (by decide) rfl rfl (fun c => ?_) (fun c => ?_)
  · exact zz_E.weak (k1 c) rfl ⟨rfl, rfl, trivial⟩
  · exact zz_E.weak (k2 c) rfl ⟨rfl, rfl, trivial⟩
theorem mb_68_265 {X : Nat → Option zz_C} {h : zz_H} (hh : 111 ≤ h.length) {s : mS} {d : Nat} {Q : Option Value → zz_H → Prop} {x2 : Int32} (k1 : ¬ (s.1 66) = 0 → zz_E zp_P zt_tf zt_fd X d zm_68 320 [(0, .ref 61), (2, .int x2)] [] (mH h s) Q) (k2 : ¬ ¬ (s.1 66) = 0 → zz_E zp_P zt_tf zt_fd X d zm_68 272 [(0, .ref 61), (2, .int x2)] [] (mH h s) Q) : zz_E zp_P zt_tf zt_fd X d zm_68 265 [(0, .ref 61), (2, .int x2)] [] (mH h s) Q := by
  refine zz_E.n 266 rfl rfl rfl ?_
  refine mE_g hh 269 (v := .int (s.1 66)) rfl rfl rfl ?_
  refine zz_E.b1 320 272 (A := ¬ (s.1 66) = 0) rfl (zz_cond_ne _ _) (by decide) rfl rfl (fun c => ?_) (fun c => ?_)
  · exact zz_E.weak (k1 c) rfl ⟨rfl, rfl, trivial⟩
  · exact zz_E.weak (k2 c) rfl ⟨rfl, rfl, trivial⟩
theorem mb_68_272 {X : Nat → Option zz_C} {h : zz_H} (hh : 111 ≤ h.length) {s : mS} {d : Nat} {Q : Option Value → zz_H → Prop} {x2 : Int32} (i295 : ¬ ((s.1 69) < 0 ∨ 8000 ≤ Int32.toNatClampNeg (s.1 69))) (k : zz_E zp_P zt_tf zt_fd X d zm_313 0 [(0, .ref 61), (1, .int (s.1 69))] [] (mH h (mI (mI s 69 ((s.1 69) + 1)) 70 ((s.2.2.1 27) (Int32.toNatClampNeg (s.1 69))))) (fun v h' => zz_E zp_P zt_tf zt_fd X (d + 1) zm_68 305 [(0, .ref 61), (2, .int x2)] (v.toList ++ []) h' Q)) : zz_E zp_P zt_tf zt_fd X (d + 1) zm_68 272 [(0, .ref 61), (2, .int x2)] [] (mH h s) Q := by
  refine zz_E.n 273 rfl rfl rfl ?_
  refine mE_g hh 276 (v := .int (s.1 69)) rfl rfl rfl ?_
  refine zz_E.n 278 rfl rfl rfl ?_
  refine zz_E.n 279 rfl rfl rfl ?_
  refine zz_E.n 280 rfl rfl rfl ?_
  refine mE_g hh 283 (v := .int (s.1 69)) rfl rfl rfl ?_
  refine zz_E.c 284 (.int 1) rfl rfl rfl rfl ?_
  refine zz_E.n 285 rfl rfl rfl ?_
  refine mE_p hh 288 rfl (by decide) rfl (mF_69 _ _) rfl ?_
  refine zz_E.n 289 rfl rfl rfl ?_
  refine zz_E.n 290 rfl rfl rfl ?_
  refine mE_g hh 293 (v := .ref 75) rfl rfl rfl ?_
  refine zz_E.n 295 rfl rfl rfl ?_
  refine mE_ia hh 296 14 (f := (s.2.2.1 27)) rfl (by decide) rfl rfl i295 rfl ?_
  refine mE_p hh 299 rfl (by decide) rfl (mF_70 _ _) rfl ?_
  refine zz_E.n 300 rfl rfl rfl ?_
  refine zz_E.n 302 rfl rfl rfl ?_
  refine mE_cv hh 305 (as := []) rfl rfl (Nat.le_of_ble_eq_true rfl) (Nat.le_of_ble_eq_true rfl) rfl (Nat.le_of_ble_eq_true rfl) rfl ?_
  refine zz_E.mono k ?_
  intro v h' hE
  exact zz_E.weak hE rfl ⟨rfl, rfl, trivial⟩
theorem mb_68_305 {X : Nat → Option zz_C} {h : zz_H} (hh : 111 ≤ h.length) {s : mS} {d : Nat} {Q : Option Value → zz_H → Prop} {x2 : Int32} (k1 : (s.1 66) ≤ 0 → zz_E zp_P zt_tf zt_fd X d zm_68 317 [(0, .ref 61), (2, .int x2)] [] (mH h s) Q) (k2 : ¬ (s.1 66) ≤ 0 → zz_E zp_P zt_tf zt_fd X d zm_68 312 [(0, .ref 61), (2, .int x2)] [] (mH h s) Q) : zz_E zp_P zt_tf zt_fd X d zm_68 305 [(0, .ref 61), (2, .int x2)] [] (mH h s) Q := by
  refine zz_E.n 306 rfl rfl rfl ?_
  refine mE_g hh 309 (v := .int (s.1 66)) rfl rfl rfl ?_
  refine zz_E.b1 317 312 (A := (s.1 66) ≤ 0) rfl rfl (by decide) rfl rfl (fun c => ?_) (fun c => ?_)
  · exact zz_E.weak (k1 c) rfl ⟨rfl, rfl, trivial⟩
  · exact zz_E.weak (k2 c) rfl ⟨rfl, rfl, trivial⟩
theorem mb_68_312 {X : Nat → Option zz_C} {h : zz_H} (hh : 111 ≤ h.length) {s : mS} {d : Nat} {Q : Option Value → zz_H → Prop} {x2 : Int32} (k : zz_E zp_P zt_tf zt_fd X d zm_312 0 [(0, .ref 61)] [] (mH h s) (fun v h' => zz_E zp_P zt_tf zt_fd X (d + 1) zm_68 316 [(0, .ref 61), (2, .int x2)] (v.toList ++ []) h' Q)) : zz_E zp_P zt_tf zt_fd X (d + 1) zm_68 312 [(0, .ref 61), (2, .int x2)] [] (mH h s) Q := by
  refine zz_E.n 313 rfl rfl rfl ?_
  refine mE_cv hh 316 (as := []) rfl rfl (Nat.le_of_ble_eq_true rfl) (Nat.le_of_ble_eq_true rfl) rfl (Nat.le_of_ble_eq_true rfl) rfl ?_
  refine zz_E.mono k ?_
  intro v h' hE
  exact zz_E.weak hE rfl ⟨rfl, rfl, trivial⟩
theorem mb_68_316 {X : Nat → Option zz_C} {h : zz_H} (hh : 111 ≤ h.length) {s : mS} {d : Nat} {Q : Option Value → zz_H → Prop} {x2 : Int32} {y0 : Int32} (k : zz_E zp_P zt_tf zt_fd X d zm_68 317 [(0, .ref 61), (2, .int x2)] [] (mH h s) Q) : zz_E zp_P zt_tf zt_fd X d zm_68 316 [(0, .ref 61), (2, .int x2)] [.int y0] (mH h s) Q := by
  refine zz_E.n 317 rfl rfl rfl ?_
  exact zz_E.weak k rfl ⟨rfl, rfl, trivial⟩
theorem mb_68_317 {X : Nat → Option zz_C} {h : zz_H} (hh : 111 ≤ h.length) {s : mS} {d : Nat} {Q : Option Value → zz_H → Prop} {x2 : Int32} (k : zz_E zp_P zt_tf zt_fd X d zm_68 258 [(0, .ref 61), (2, .int x2)] [] (mH h s) Q) : zz_E zp_P zt_tf zt_fd X d zm_68 317 [(0, .ref 61), (2, .int x2)] [] (mH h s) Q := by
  refine zz_E.n 258 rfl rfl rfl ?_
  exact zz_E.weak k rfl ⟨rfl, rfl, trivial⟩
theorem mb_68_320 {X : Nat → Option zz_C} {h : zz_H} (hh : 111 ≤ h.length) {s : mS} {d : Nat} {Q : Option Value → zz_H → Prop} {x2 : Int32} (k1 : (s.1 66) ≤ 0 → zz_E zp_P zt_tf zt_fd X d zm_68 332 [(0, .ref 61), (2, .int x2)] [] (mH h s) Q) (k2 : ¬ (s.1 66) ≤ 0 → zz_E zp_P zt_tf zt_fd X d zm_68 327 [(0, .ref 61)] [] (mH h s) Q) : zz_E zp_P zt_tf zt_fd X d zm_68 320 [(0, .ref 61), (2, .int x2)] [] (mH h s) Q := by
  refine zz_E.n 321 rfl rfl rfl ?_
  refine mE_g hh 324 (v := .int (s.1 66)) rfl rfl rfl ?_
  refine zz_E.b1 332 327 (A := (s.1 66) ≤ 0) rfl rfl (by decide) rfl rfl (fun c => ?_) (fun c => ?_)
  · exact zz_E.weak (k1 c) rfl ⟨rfl, rfl, trivial⟩
  · exact zz_E.weak (k2 c) rfl ⟨rfl, trivial⟩
theorem mb_68_327 {X : Nat → Option zz_C} {h : zz_H} (hh : 111 ≤ h.length) {s : mS} {d : Nat} {Q : Option Value → zz_H → Prop}  (k : Q (some (.int (s.1 66))) (mH h s)) : zz_E zp_P zt_tf zt_fd X d zm_68 327 [(0, .ref 61)] [] (mH h s) Q := by
  refine zz_E.n 328 rfl rfl rfl ?_
  refine mE_g hh 331 (v := .int (s.1 66)) rfl rfl rfl ?_
  refine zz_E.ret rfl rfl rfl ?_
  exact k
theorem mb_68_332 {X : Nat → Option zz_C} {h : zz_H} (hh : 111 ≤ h.length) {s : mS} {d : Nat} {Q : Option Value → zz_H → Prop} {x2 : Int32} (k1 : x2 < 0 → zz_E zp_P zt_tf zt_fd X d zm_68 360 [(0, .ref 61)] [] (mH h s) Q) (k2 : ¬ x2 < 0 → zz_E zp_P zt_tf zt_fd X d zm_68 336 [(0, .ref 61), (2, .int x2)] [] (mH h s) Q) : zz_E zp_P zt_tf zt_fd X d zm_68 332 [(0, .ref 61), (2, .int x2)] [] (mH h s) Q := by
  refine zz_E.n 333 rfl rfl rfl ?_
  refine zz_E.b1 360 336 (A := x2 < 0) rfl rfl (by decide) rfl rfl (fun c => ?_) (fun c => ?_)
  · exact zz_E.weak (k1 c) rfl ⟨rfl, trivial⟩
  · exact zz_E.weak (k2 c) rfl ⟨rfl, rfl, trivial⟩
theorem mb_68_336 {X : Nat → Option zz_C} {h : zz_H} (hh : 111 ≤ h.length) {s : mS} {d : Nat} {Q : Option Value → zz_H → Prop} {x2 : Int32} (i346 : ¬ ((0 : Int32) < 0 ∨ 9000 ≤ Int32.toNatClampNeg (0 : Int32))) (i347 : ¬ (x2 < 0 ∨ 8 ≤ Int32.toNatClampNeg x2)) (i358 : ¬ ((0 : Int32) < 0 ∨ 9000 ≤ Int32.toNatClampNeg (0 : Int32))) (i359 : ¬ (x2 < 0 ∨ 8 ≤ Int32.toNatClampNeg x2)) (k : zz_E zp_P zt_tf zt_fd X d zm_68 360 [(0, .ref 61)] [] (mH h (mA (mA s 71 (upd (s.2.2.1 71) (Int32.toNatClampNeg x2) ((s.2.2.1 49) (Int32.toNatClampNeg (0 : Int32))))) 72 (upd (s.2.2.1 72) (Int32.toNatClampNeg x2) ((s.2.2.1 50) (Int32.toNatClampNeg (0 : Int32)))))) Q) : zz_E zp_P zt_tf zt_fd X d zm_68 336 [(0, .ref 61), (2, .int x2)] [] (mH h s) Q := by
  refine zz_E.n 337 rfl rfl rfl ?_
  refine mE_g hh 340 (v := .ref 97) rfl rfl rfl ?_
  refine zz_E.n 341 rfl rfl rfl ?_
  refine zz_E.n 342 rfl rfl rfl ?_
  refine mE_g hh 345 (v := .ref 90) rfl rfl rfl ?_
  refine zz_E.c 346 (.int 0) rfl rfl rfl rfl ?_
  refine mE_ia hh 347 29 (f := (s.2.2.1 49)) rfl (by decide) rfl rfl i346 rfl ?_
  refine mE_is hh 348 36 (f := (s.2.2.1 71)) rfl (by decide) rfl rfl i347 (mA_97 _ _) rfl ?_
  refine zz_E.n 349 rfl rfl rfl ?_
  refine mE_g hh 352 (v := .ref 98) rfl rfl rfl ?_
  refine zz_E.n 353 rfl rfl rfl ?_
  refine zz_E.n 354 rfl rfl rfl ?_
  refine mE_g hh 357 (v := .ref 91) rfl rfl rfl ?_
  refine zz_E.c 358 (.int 0) rfl rfl rfl rfl ?_
  refine mE_ia hh 359 30 (f := (s.2.2.1 50)) rfl (by decide) rfl rfl i358 rfl ?_
  refine mE_is hh 360 37 (f := (s.2.2.1 72)) rfl (by decide) rfl rfl i359 (mA_98 _ _) rfl ?_
  exact zz_E.weak k rfl ⟨rfl, trivial⟩
theorem mb_68_360 {X : Nat → Option zz_C} {h : zz_H} (hh : 111 ≤ h.length) {s : mS} {d : Nat} {Q : Option Value → zz_H → Prop}  (k : zz_E zp_P zt_tf zt_fd X d zm_68 363 [(0, .ref 61), (4, .int 0)] [] (mH h s) Q) : zz_E zp_P zt_tf zt_fd X d zm_68 360 [(0, .ref 61)] [] (mH h s) Q := by
  refine zz_E.c 361 (.int 0) rfl rfl rfl rfl ?_
  refine zz_E.n 363 rfl rfl rfl ?_
  exact zz_E.weak k rfl ⟨rfl, rfl, trivial⟩
theorem mb_68_363 {X : Nat → Option zz_C} {h : zz_H} (hh : 111 ≤ h.length) {s : mS} {d : Nat} {Q : Option Value → zz_H → Prop} {x4 : Int32} (k1 : 8 ≤ x4 → zz_E zp_P zt_tf zt_fd X d zm_68 403 [(0, .ref 61)] [] (mH h s) Q) (k2 : ¬ 8 ≤ x4 → zz_E zp_P zt_tf zt_fd X d zm_68 370 [(0, .ref 61), (4, .int x4)] [] (mH h s) Q) : zz_E zp_P zt_tf zt_fd X d zm_68 363 [(0, .ref 61), (4, .int x4)] [] (mH h s) Q := by
  refine zz_E.n 365 rfl rfl rfl ?_
  refine zz_E.c 367 (.int 8) rfl rfl rfl rfl ?_
  refine zz_E.b2 403 370 (A := 8 ≤ x4) rfl rfl (by decide) rfl rfl (fun c => ?_) (fun c => ?_)
  · exact zz_E.weak (k1 c) rfl ⟨rfl, trivial⟩
  · exact zz_E.weak (k2 c) rfl ⟨rfl, rfl, trivial⟩
theorem mb_68_370 {X : Nat → Option zz_C} {h : zz_H} (hh : 111 ≤ h.length) {s : mS} {d : Nat} {Q : Option Value → zz_H → Prop} {x4 : Int32} (i377 : ¬ (x4 < 0 ∨ 8 ≤ Int32.toNatClampNeg x4)) (i384 : ¬ (x4 < 0 ∨ 8 ≤ Int32.toNatClampNeg x4)) (k : zz_E zp_P zt_tf zt_fd X d zm_75 0 [(0, .ref 61), (1, .int ((s.2.2.1 71) (Int32.toNatClampNeg x4))), (2, .int ((s.2.2.1 72) (Int32.toNatClampNeg x4))), (3, .int (2410 * (56 + x4)))] [] (mH h s) (fun v h' => zz_E zp_P zt_tf zt_fd X (d + 1) zm_68 397 [(0, .ref 61), (4, .int x4)] (v.toList ++ []) h' Q)) : zz_E zp_P zt_tf zt_fd X (d + 1) zm_68 370 [(0, .ref 61), (4, .int x4)] [] (mH h s) Q := by
  refine zz_E.n 371 rfl rfl rfl ?_
  refine zz_E.n 372 rfl rfl rfl ?_
  refine mE_g hh 375 (v := .ref 97) rfl rfl rfl ?_
  refine zz_E.n 377 rfl rfl rfl ?_
  refine mE_ia hh 378 36 (f := (s.2.2.1 71)) rfl (by decide) rfl rfl i377 rfl ?_
  refine zz_E.n 379 rfl rfl rfl ?_
  refine mE_g hh 382 (v := .ref 98) rfl rfl rfl ?_
  refine zz_E.n 384 rfl rfl rfl ?_
  refine mE_ia hh 385 37 (f := (s.2.2.1 72)) rfl (by decide) rfl rfl i384 rfl ?_
  refine zz_E.c 388 (.int 2410) rfl rfl rfl rfl ?_
  refine zz_E.c 390 (.int 56) rfl rfl rfl rfl ?_
  refine zz_E.n 392 rfl rfl rfl ?_
  refine zz_E.n 393 rfl rfl rfl ?_
  refine zz_E.n 394 rfl rfl rfl ?_
  refine mE_cv hh 397 (as := []) rfl rfl (Nat.le_of_ble_eq_true rfl) (Nat.le_of_ble_eq_true rfl) rfl (Nat.le_of_ble_eq_true rfl) rfl ?_
  refine zz_E.mono k ?_
  intro v h' hE
  exact zz_E.weak hE rfl ⟨rfl, rfl, trivial⟩
theorem mb_68_397 {X : Nat → Option zz_C} {h : zz_H} (hh : 111 ≤ h.length) {s : mS} {d : Nat} {Q : Option Value → zz_H → Prop} {x4 : Int32} (k : zz_E zp_P zt_tf zt_fd X d zm_68 363 [(0, .ref 61), (4, .int (x4 + 1))] [] (mH h s) Q) : zz_E zp_P zt_tf zt_fd X d zm_68 397 [(0, .ref 61), (4, .int x4)] [] (mH h s) Q := by
  refine zz_E.n 400 rfl rfl rfl ?_
  refine zz_E.n 363 rfl rfl rfl ?_
  exact zz_E.weak k rfl ⟨rfl, rfl, trivial⟩
theorem mb_68_403 {X : Nat → Option zz_C} {h : zz_H} (hh : 111 ≤ h.length) {s : mS} {d : Nat} {Q : Option Value → zz_H → Prop}  (k : zz_E zp_P zt_tf zt_fd X d zm_68 406 [(0, .ref 61), (4, .int 0)] [] (mH h s) Q) : zz_E zp_P zt_tf zt_fd X d zm_68 403 [(0, .ref 61)] [] (mH h s) Q := by
  refine zz_E.c 404 (.int 0) rfl rfl rfl rfl ?_
  refine zz_E.n 406 rfl rfl rfl ?_
  exact zz_E.weak k rfl ⟨rfl, rfl, trivial⟩
theorem mb_68_406 {X : Nat → Option zz_C} {h : zz_H} (hh : 111 ≤ h.length) {s : mS} {d : Nat} {Q : Option Value → zz_H → Prop} {x4 : Int32} (k1 : 8 ≤ x4 → zz_E zp_P zt_tf zt_fd X d zm_68 438 [] [] (mH h s) Q) (k2 : ¬ 8 ≤ x4 → zz_E zp_P zt_tf zt_fd X d zm_68 413 [(0, .ref 61), (4, .int x4)] [] (mH h s) Q) : zz_E zp_P zt_tf zt_fd X d zm_68 406 [(0, .ref 61), (4, .int x4)] [] (mH h s) Q := by
  refine zz_E.n 408 rfl rfl rfl ?_
  refine zz_E.c 410 (.int 8) rfl rfl rfl rfl ?_
  refine zz_E.b2 438 413 (A := 8 ≤ x4) rfl rfl (by decide) rfl rfl (fun c => ?_) (fun c => ?_)
  · exact zz_E.weak (k1 c) rfl trivial
  · exact zz_E.weak (k2 c) rfl ⟨rfl, rfl, trivial⟩
theorem mb_68_413 {X : Nat → Option zz_C} {h : zz_H} (hh : 111 ≤ h.length) {s : mS} {d : Nat} {Q : Option Value → zz_H → Prop} {x4 : Int32} (k : zz_E zp_P zt_tf zt_fd X d zm_84 0 [(0, .ref 61), (1, .int (2410 * (56 + x4))), (2, .int (2410 * x4))] [] (mH h s) (fun v h' => zz_E zp_P zt_tf zt_fd X (d + 1) zm_68 432 [(0, .ref 61), (4, .int x4)] (v.toList ++ []) h' Q)) : zz_E zp_P zt_tf zt_fd X (d + 1) zm_68 413 [(0, .ref 61), (4, .int x4)] [] (mH h s) Q := by
  refine zz_E.n 414 rfl rfl rfl ?_
  refine zz_E.c 417 (.int 2410) rfl rfl rfl rfl ?_
  refine zz_E.c 419 (.int 56) rfl rfl rfl rfl ?_
  refine zz_E.n 421 rfl rfl rfl ?_
  refine zz_E.n 422 rfl rfl rfl ?_
  refine zz_E.n 423 rfl rfl rfl ?_
  refine zz_E.c 426 (.int 2410) rfl rfl rfl rfl ?_
  refine zz_E.n 428 rfl rfl rfl ?_
  refine zz_E.n 429 rfl rfl rfl ?_
  refine mE_cv hh 432 (as := []) rfl rfl (Nat.le_of_ble_eq_true rfl) (Nat.le_of_ble_eq_true rfl) rfl (Nat.le_of_ble_eq_true rfl) rfl ?_
  refine zz_E.mono k ?_
  intro v h' hE
  exact zz_E.weak hE rfl ⟨rfl, rfl, trivial⟩
theorem mb_68_432 {X : Nat → Option zz_C} {h : zz_H} (hh : 111 ≤ h.length) {s : mS} {d : Nat} {Q : Option Value → zz_H → Prop} {x4 : Int32} (k : zz_E zp_P zt_tf zt_fd X d zm_68 406 [(0, .ref 61), (4, .int (x4 + 1))] [] (mH h s) Q) : zz_E zp_P zt_tf zt_fd X d zm_68 432 [(0, .ref 61), (4, .int x4)] [] (mH h s) Q := by
  refine zz_E.n 435 rfl rfl rfl ?_
  refine zz_E.n 406 rfl rfl rfl ?_
  exact zz_E.weak k rfl ⟨rfl, rfl, trivial⟩
theorem mb_68_438 {X : Nat → Option zz_C} {h : zz_H} (hh : 111 ≤ h.length) {s : mS} {d : Nat} {Q : Option Value → zz_H → Prop}  (k : Q (some (.int 0)) (mH h s)) : zz_E zp_P zt_tf zt_fd X d zm_68 438 [] [] (mH h s) Q := by
  refine zz_E.c 439 (.int 0) rfl rfl rfl rfl ?_
  refine zz_E.ret rfl rfl rfl ?_
  exact k
def mf_68_59 (N : Nat)  (s : mS) : mO := some (s, (some (.int (-1))))
theorem mr_68_59 {X : Nat → Option zz_C} {h : zz_H} (hh : 111 ≤ h.length) {d : Nat} {N : Nat} {Q : Option Value → zz_H → Prop}  {s s' : mS} {v : Option Value} (hf : mf_68_59 N  s = some (s', v)) (k : Q v (mH h s')) : zz_E zp_P zt_tf zt_fd X (d + 9) zm_68 59 [] [] (mH h s) Q := by
  unfold mf_68_59 at hf
  cases hf
  exact mb_68_59 hh  k
def mf_68_438 (N : Nat)  (s : mS) : mO := some (s, (some (.int 0)))
theorem mr_68_438 {X : Nat → Option zz_C} {h : zz_H} (hh : 111 ≤ h.length) {d : Nat} {N : Nat} {Q : Option Value → zz_H → Prop}  {s s' : mS} {v : Option Value} (hf : mf_68_438 N  s = some (s', v)) (k : Q v (mH h s')) : zz_E zp_P zt_tf zt_fd X (d + 9) zm_68 438 [] [] (mH h s) Q := by
  unfold mf_68_438 at hf
  cases hf
  exact mb_68_438 hh  k
def mf_68_432 (N : Nat) (rc : Nat → Int32 → mS → mO) (x4 : Int32) (s : mS) : mO := rc 0 (x4 + 1) s
theorem mr_68_432 {X : Nat → Option zz_C} {h : zz_H} (hh : 111 ≤ h.length) {d : Nat} {N : Nat} {rc : Nat → Int32 → mS → mO} (hrc0 : ∀ {Q : Option Value → zz_H → Prop} {x4 : Int32} {s s' : mS} {v : Option Value}, rc 0 x4 s = some (s', v) → Q v (mH h s') → zz_E zp_P zt_tf zt_fd X (d + 9) zm_68 406 [(0, .ref 61), (4, .int x4)] [] (mH h s) Q) {Q : Option Value → zz_H → Prop} {x4 : Int32} {s s' : mS} {v : Option Value} (hf : mf_68_432 N rc x4 s = some (s', v)) (k : Q v (mH h s')) : zz_E zp_P zt_tf zt_fd X (d + 9) zm_68 432 [(0, .ref 61), (4, .int x4)] [] (mH h s) Q := by
  unfold mf_68_432 at hf
  exact mb_68_432 hh  (hrc0 hf k)
def mf_68_413 (N : Nat) (rc : Nat → Int32 → mS → mO) (x4 : Int32) (s : mS) : mO := mo_bv (mf_84 N (2410 * (56 + x4)) (2410 * x4) s) (fun s1 => mf_68_432 N rc x4 s1)
theorem mr_68_413 {X : Nat → Option zz_C} {h : zz_H} (hh : 111 ≤ h.length) {d : Nat} {N : Nat} {rc : Nat → Int32 → mS → mO} (hrc0 : ∀ {Q : Option Value → zz_H → Prop} {x4 : Int32} {s s' : mS} {v : Option Value}, rc 0 x4 s = some (s', v) → Q v (mH h s') → zz_E zp_P zt_tf zt_fd X (d + 9) zm_68 406 [(0, .ref 61), (4, .int x4)] [] (mH h s) Q) {Q : Option Value → zz_H → Prop} {x4 : Int32} {s s' : mS} {v : Option Value} (hf : mf_68_413 N rc x4 s = some (s', v)) (k : Q v (mH h s')) : zz_E zp_P zt_tf zt_fd X (d + 9) zm_68 413 [(0, .ref 61), (4, .int x4)] [] (mH h s) Q := by
  unfold mf_68_413 at hf
  obtain ⟨s1, e, hf⟩ := mo_bv_ok hf
  exact mb_68_413 (d := d + 8) hh  (mr_84 (d := d + 5) hh e (mr_68_432 hh hrc0 hf k))
def mf_68_406 (N : Nat) (rc : Nat → Int32 → mS → mO) (x4 : Int32) (s : mS) : mO := if 8 ≤ x4 then mf_68_438 N  s else mf_68_413 N rc x4 s
theorem mr_68_406 {X : Nat → Option zz_C} {h : zz_H} (hh : 111 ≤ h.length) {d : Nat} {N : Nat} {rc : Nat → Int32 → mS → mO} (hrc0 : ∀ {Q : Option Value → zz_H → Prop} {x4 : Int32} {s s' : mS} {v : Option Value}, rc 0 x4 s = some (s', v) → Q v (mH h s') → zz_E zp_P zt_tf zt_fd X (d + 9) zm_68 406 [(0, .ref 61), (4, .int x4)] [] (mH h s) Q) {Q : Option Value → zz_H → Prop} {x4 : Int32} {s s' : mS} {v : Option Value} (hf : mf_68_406 N rc x4 s = some (s', v)) (k : Q v (mH h s')) : zz_E zp_P zt_tf zt_fd X (d + 9) zm_68 406 [(0, .ref 61), (4, .int x4)] [] (mH h s) Q := by
  unfold mf_68_406 at hf
  refine mb_68_406 hh  (fun c => ?_) (fun c => ?_)
  · rw [if_pos c] at hf
    exact mr_68_438 hh hf k
  · rw [if_neg c] at hf
    exact mr_68_413 hh hrc0 hf k
def mf_68_L2 (N : Nat) : Nat → Nat → Int32 → mS → mO
  | 0, _, _, _ => none
  | n + 1, l, x4, s => if l = 0 then mf_68_406 N (mf_68_L2 N n) x4 s else none
theorem mr_68_L2 {X : Nat → Option zz_C} {h : zz_H} (hh : 111 ≤ h.length) {d : Nat} {N : Nat} : ∀ n : Nat, (∀ {Q : Option Value → zz_H → Prop} {x4 : Int32} {s s' : mS} {v : Option Value}, mf_68_L2 N n 0 x4 s = some (s', v) → Q v (mH h s') → zz_E zp_P zt_tf zt_fd X (d + 9) zm_68 406 [(0, .ref 61), (4, .int x4)] [] (mH h s) Q) := by
  intro n
  induction n with
  | zero => exact (fun hf _ => by cases hf)
  | succ n ih =>
    have h0 := @ih
    intro Q _ s s' v hf k
    unfold mf_68_L2 at hf
    rw [if_pos rfl] at hf
    exact mr_68_406 hh h0 hf k
def mf_68_403 (N : Nat)  (s : mS) : mO := mf_68_L2 N N 0 0 s
theorem mr_68_403 {X : Nat → Option zz_C} {h : zz_H} (hh : 111 ≤ h.length) {d : Nat} {N : Nat} {Q : Option Value → zz_H → Prop}  {s s' : mS} {v : Option Value} (hf : mf_68_403 N  s = some (s', v)) (k : Q v (mH h s')) : zz_E zp_P zt_tf zt_fd X (d + 9) zm_68 403 [(0, .ref 61)] [] (mH h s) Q := by
  unfold mf_68_403 at hf
  exact mb_68_403 hh  (mr_68_L2 hh N hf k)
def mf_68_397 (N : Nat) (rc : Nat → Int32 → mS → mO) (x4 : Int32) (s : mS) : mO := rc 0 (x4 + 1) s
theorem mr_68_397 {X : Nat → Option zz_C} {h : zz_H} (hh : 111 ≤ h.length) {d : Nat} {N : Nat} {rc : Nat → Int32 → mS → mO} (hrc0 : ∀ {Q : Option Value → zz_H → Prop} {x4 : Int32} {s s' : mS} {v : Option Value}, rc 0 x4 s = some (s', v) → Q v (mH h s') → zz_E zp_P zt_tf zt_fd X (d + 9) zm_68 363 [(0, .ref 61), (4, .int x4)] [] (mH h s) Q) {Q : Option Value → zz_H → Prop} {x4 : Int32} {s s' : mS} {v : Option Value} (hf : mf_68_397 N rc x4 s = some (s', v)) (k : Q v (mH h s')) : zz_E zp_P zt_tf zt_fd X (d + 9) zm_68 397 [(0, .ref 61), (4, .int x4)] [] (mH h s) Q := by
  unfold mf_68_397 at hf
  exact mb_68_397 hh  (hrc0 hf k)
def mf_68_370 (N : Nat) (rc : Nat → Int32 → mS → mO) (x4 : Int32) (s : mS) : mO := if ¬ (x4 < 0 ∨ 8 ≤ Int32.toNatClampNeg x4) then (if ¬ (x4 < 0 ∨ 8 ≤ Int32.toNatClampNeg x4) then (mo_bv (mf_75 N ((s.2.2.1 71) (Int32.toNatClampNeg x4)) ((s.2.2.1 72) (Int32.toNatClampNeg x4)) (2410 * (56 + x4)) s) (fun s1 => mf_68_397 N rc x4 s1)) else none) else none
theorem mr_68_370 {X : Nat → Option zz_C} {h : zz_H} (hh : 111 ≤ h.length) {d : Nat} {N : Nat} {rc : Nat → Int32 → mS → mO} (hrc0 : ∀ {Q : Option Value → zz_H → Prop} {x4 : Int32} {s s' : mS} {v : Option Value}, rc 0 x4 s = some (s', v) → Q v (mH h s') → zz_E zp_P zt_tf zt_fd X (d + 9) zm_68 363 [(0, .ref 61), (4, .int x4)] [] (mH h s) Q) {Q : Option Value → zz_H → Prop} {x4 : Int32} {s s' : mS} {v : Option Value} (hf : mf_68_370 N rc x4 s = some (s', v)) (k : Q v (mH h s')) : zz_E zp_P zt_tf zt_fd X (d + 9) zm_68 370 [(0, .ref 61), (4, .int x4)] [] (mH h s) Q := by
  unfold mf_68_370 at hf
  obtain ⟨q0, hf⟩ := mo_if hf
  obtain ⟨q1, hf⟩ := mo_if hf
  obtain ⟨s1, e, hf⟩ := mo_bv_ok hf
  exact mb_68_370 (d := d + 8) hh q0 q1 (mr_75 (d := d + 6) hh e (mr_68_397 hh hrc0 hf k))
def mf_68_363 (N : Nat) (rc : Nat → Int32 → mS → mO) (x4 : Int32) (s : mS) : mO := if 8 ≤ x4 then mf_68_403 N  s else mf_68_370 N rc x4 s
theorem mr_68_363 {X : Nat → Option zz_C} {h : zz_H} (hh : 111 ≤ h.length) {d : Nat} {N : Nat} {rc : Nat → Int32 → mS → mO} (hrc0 : ∀ {Q : Option Value → zz_H → Prop} {x4 : Int32} {s s' : mS} {v : Option Value}, rc 0 x4 s = some (s', v) → Q v (mH h s') → zz_E zp_P zt_tf zt_fd X (d + 9) zm_68 363 [(0, .ref 61), (4, .int x4)] [] (mH h s) Q) {Q : Option Value → zz_H → Prop} {x4 : Int32} {s s' : mS} {v : Option Value} (hf : mf_68_363 N rc x4 s = some (s', v)) (k : Q v (mH h s')) : zz_E zp_P zt_tf zt_fd X (d + 9) zm_68 363 [(0, .ref 61), (4, .int x4)] [] (mH h s) Q := by
  unfold mf_68_363 at hf
  refine mb_68_363 hh  (fun c => ?_) (fun c => ?_)
  · rw [if_pos c] at hf
    exact mr_68_403 hh hf k
  · rw [if_neg c] at hf
    exact mr_68_370 hh hrc0 hf k
def mf_68_L4 (N : Nat) : Nat → Nat → Int32 → mS → mO
  | 0, _, _, _ => none
  | n + 1, l, x4, s => if l = 0 then mf_68_363 N (mf_68_L4 N n) x4 s else none
theorem mr_68_L4 {X : Nat → Option zz_C} {h : zz_H} (hh : 111 ≤ h.length) {d : Nat} {N : Nat} : ∀ n : Nat, (∀ {Q : Option Value → zz_H → Prop} {x4 : Int32} {s s' : mS} {v : Option Value}, mf_68_L4 N n 0 x4 s = some (s', v) → Q v (mH h s') → zz_E zp_P zt_tf zt_fd X (d + 9) zm_68 363 [(0, .ref 61), (4, .int x4)] [] (mH h s) Q) := by
  intro n
  induction n with
  | zero => exact (fun hf _ => by cases hf)
  | succ n ih =>
    have h0 := @ih
    intro Q _ s s' v hf k
    unfold mf_68_L4 at hf
    rw [if_pos rfl] at hf
    exact mr_68_363 hh h0 hf k
def mf_68_360 (N : Nat)  (s : mS) : mO := mf_68_L4 N N 0 0 s
theorem mr_68_360 {X : Nat → Option zz_C} {h : zz_H} (hh : 111 ≤ h.length) {d : Nat} {N : Nat} {Q : Option Value → zz_H → Prop}  {s s' : mS} {v : Option Value} (hf : mf_68_360 N  s = some (s', v)) (k : Q v (mH h s')) : zz_E zp_P zt_tf zt_fd X (d + 9) zm_68 360 [(0, .ref 61)] [] (mH h s) Q := by
  unfold mf_68_360 at hf
  exact mb_68_360 hh  (mr_68_L4 hh N hf k)
def mf_68_336 (N : Nat) (x2 : Int32) (s : mS) : mO := if ¬ ((0 : Int32) < 0 ∨ 9000 ≤ Int32.toNatClampNeg (0 : Int32)) then (if ¬ (x2 < 0 ∨ 8 ≤ Int32.toNatClampNeg x2) then (if ¬ ((0 : Int32) < 0 ∨ 9000 ≤ Int32.toNatClampNeg (0 : Int32)) then (if ¬ (x2 < 0 ∨ 8 ≤ Int32.toNatClampNeg x2) then (mf_68_360 N  (mA (mA s 71 (upd (s.2.2.1 71) (Int32.toNatClampNeg x2) ((s.2.2.1 49) (Int32.toNatClampNeg (0 : Int32))))) 72 (upd (s.2.2.1 72) (Int32.toNatClampNeg x2) ((s.2.2.1 50) (Int32.toNatClampNeg (0 : Int32)))))) else none) else none) else none) else none
theorem mr_68_336 {X : Nat → Option zz_C} {h : zz_H} (hh : 111 ≤ h.length) {d : Nat} {N : Nat} {Q : Option Value → zz_H → Prop} {x2 : Int32} {s s' : mS} {v : Option Value} (hf : mf_68_336 N x2 s = some (s', v)) (k : Q v (mH h s')) : zz_E zp_P zt_tf zt_fd X (d + 9) zm_68 336 [(0, .ref 61), (2, .int x2)] [] (mH h s) Q := by
  unfold mf_68_336 at hf
  obtain ⟨q0, hf⟩ := mo_if hf
  obtain ⟨q1, hf⟩ := mo_if hf
  obtain ⟨q2, hf⟩ := mo_if hf
  obtain ⟨q3, hf⟩ := mo_if hf
  exact mb_68_336 hh q0 q1 q2 q3 (mr_68_360 hh hf k)
def mf_68_332 (N : Nat) (x2 : Int32) (s : mS) : mO := if x2 < 0 then mf_68_360 N  s else mf_68_336 N x2 s
theorem mr_68_332 {X : Nat → Option zz_C} {h : zz_H} (hh : 111 ≤ h.length) {d : Nat} {N : Nat} {Q : Option Value → zz_H → Prop} {x2 : Int32} {s s' : mS} {v : Option Value} (hf : mf_68_332 N x2 s = some (s', v)) (k : Q v (mH h s')) : zz_E zp_P zt_tf zt_fd X (d + 9) zm_68 332 [(0, .ref 61), (2, .int x2)] [] (mH h s) Q := by
  unfold mf_68_332 at hf
  refine mb_68_332 hh  (fun c => ?_) (fun c => ?_)
  · rw [if_pos c] at hf
    exact mr_68_360 hh hf k
  · rw [if_neg c] at hf
    exact mr_68_336 hh hf k
def mf_68_327 (N : Nat)  (s : mS) : mO := some (s, (some (.int (s.1 66))))
theorem mr_68_327 {X : Nat → Option zz_C} {h : zz_H} (hh : 111 ≤ h.length) {d : Nat} {N : Nat} {Q : Option Value → zz_H → Prop}  {s s' : mS} {v : Option Value} (hf : mf_68_327 N  s = some (s', v)) (k : Q v (mH h s')) : zz_E zp_P zt_tf zt_fd X (d + 9) zm_68 327 [(0, .ref 61)] [] (mH h s) Q := by
  unfold mf_68_327 at hf
  cases hf
  exact mb_68_327 hh  k
def mf_68_320 (N : Nat) (x2 : Int32) (s : mS) : mO := if (s.1 66) ≤ 0 then mf_68_332 N x2 s else mf_68_327 N  s
theorem mr_68_320 {X : Nat → Option zz_C} {h : zz_H} (hh : 111 ≤ h.length) {d : Nat} {N : Nat} {Q : Option Value → zz_H → Prop} {x2 : Int32} {s s' : mS} {v : Option Value} (hf : mf_68_320 N x2 s = some (s', v)) (k : Q v (mH h s')) : zz_E zp_P zt_tf zt_fd X (d + 9) zm_68 320 [(0, .ref 61), (2, .int x2)] [] (mH h s) Q := by
  unfold mf_68_320 at hf
  refine mb_68_320 hh  (fun c => ?_) (fun c => ?_)
  · rw [if_pos c] at hf
    exact mr_68_332 hh hf k
  · rw [if_neg c] at hf
    exact mr_68_327 hh hf k
def mf_68_317 (N : Nat) (rc : Nat → Int32 → mS → mO) (x2 : Int32) (s : mS) : mO := rc 0 x2 s
theorem mr_68_317 {X : Nat → Option zz_C} {h : zz_H} (hh : 111 ≤ h.length) {d : Nat} {N : Nat} {rc : Nat → Int32 → mS → mO} (hrc0 : ∀ {Q : Option Value → zz_H → Prop} {x2 : Int32} {s s' : mS} {v : Option Value}, rc 0 x2 s = some (s', v) → Q v (mH h s') → zz_E zp_P zt_tf zt_fd X (d + 9) zm_68 258 [(0, .ref 61), (2, .int x2)] [] (mH h s) Q) {Q : Option Value → zz_H → Prop} {x2 : Int32} {s s' : mS} {v : Option Value} (hf : mf_68_317 N rc x2 s = some (s', v)) (k : Q v (mH h s')) : zz_E zp_P zt_tf zt_fd X (d + 9) zm_68 317 [(0, .ref 61), (2, .int x2)] [] (mH h s) Q := by
  unfold mf_68_317 at hf
  exact mb_68_317 hh  (hrc0 hf k)
def mf_68_316 (N : Nat) (rc : Nat → Int32 → mS → mO) (x2 : Int32) (y0 : Int32) (s : mS) : mO := mf_68_317 N rc x2 s
theorem mr_68_316 {X : Nat → Option zz_C} {h : zz_H} (hh : 111 ≤ h.length) {d : Nat} {N : Nat} {rc : Nat → Int32 → mS → mO} (hrc0 : ∀ {Q : Option Value → zz_H → Prop} {x2 : Int32} {s s' : mS} {v : Option Value}, rc 0 x2 s = some (s', v) → Q v (mH h s') → zz_E zp_P zt_tf zt_fd X (d + 9) zm_68 258 [(0, .ref 61), (2, .int x2)] [] (mH h s) Q) {Q : Option Value → zz_H → Prop} {x2 : Int32} {y0 : Int32} {s s' : mS} {v : Option Value} (hf : mf_68_316 N rc x2 y0 s = some (s', v)) (k : Q v (mH h s')) : zz_E zp_P zt_tf zt_fd X (d + 9) zm_68 316 [(0, .ref 61), (2, .int x2)] [.int y0] (mH h s) Q := by
  unfold mf_68_316 at hf
  exact mb_68_316 hh  (mr_68_317 hh hrc0 hf k)
def mf_68_312 (N : Nat) (rc : Nat → Int32 → mS → mO) (x2 : Int32) (s : mS) : mO := mo_bi (mf_312 N  s) (fun s1 y => mf_68_316 N rc x2 y s1)
theorem mr_68_312 {X : Nat → Option zz_C} {h : zz_H} (hh : 111 ≤ h.length) {d : Nat} {N : Nat} {rc : Nat → Int32 → mS → mO} (hrc0 : ∀ {Q : Option Value → zz_H → Prop} {x2 : Int32} {s s' : mS} {v : Option Value}, rc 0 x2 s = some (s', v) → Q v (mH h s') → zz_E zp_P zt_tf zt_fd X (d + 9) zm_68 258 [(0, .ref 61), (2, .int x2)] [] (mH h s) Q) {Q : Option Value → zz_H → Prop} {x2 : Int32} {s s' : mS} {v : Option Value} (hf : mf_68_312 N rc x2 s = some (s', v)) (k : Q v (mH h s')) : zz_E zp_P zt_tf zt_fd X (d + 9) zm_68 312 [(0, .ref 61), (2, .int x2)] [] (mH h s) Q := by
  unfold mf_68_312 at hf
  obtain ⟨s1, y, e, hf⟩ := mo_bi_ok hf
  exact mb_68_312 (d := d + 8) hh  (mr_312 (d := d + 7) hh e (mr_68_316 hh hrc0 hf k))
def mf_68_305 (N : Nat) (rc : Nat → Int32 → mS → mO) (x2 : Int32) (s : mS) : mO := if (s.1 66) ≤ 0 then mf_68_317 N rc x2 s else mf_68_312 N rc x2 s
theorem mr_68_305 {X : Nat → Option zz_C} {h : zz_H} (hh : 111 ≤ h.length) {d : Nat} {N : Nat} {rc : Nat → Int32 → mS → mO} (hrc0 : ∀ {Q : Option Value → zz_H → Prop} {x2 : Int32} {s s' : mS} {v : Option Value}, rc 0 x2 s = some (s', v) → Q v (mH h s') → zz_E zp_P zt_tf zt_fd X (d + 9) zm_68 258 [(0, .ref 61), (2, .int x2)] [] (mH h s) Q) {Q : Option Value → zz_H → Prop} {x2 : Int32} {s s' : mS} {v : Option Value} (hf : mf_68_305 N rc x2 s = some (s', v)) (k : Q v (mH h s')) : zz_E zp_P zt_tf zt_fd X (d + 9) zm_68 305 [(0, .ref 61), (2, .int x2)] [] (mH h s) Q := by
  unfold mf_68_305 at hf
  refine mb_68_305 hh  (fun c => ?_) (fun c => ?_)
  · rw [if_pos c] at hf
    exact mr_68_317 hh hrc0 hf k
  · rw [if_neg c] at hf
    exact mr_68_312 hh hrc0 hf k
def mf_68_272 (N : Nat) (rc : Nat → Int32 → mS → mO) (x2 : Int32) (s : mS) : mO := if ¬ ((s.1 69) < 0 ∨ 8000 ≤ Int32.toNatClampNeg (s.1 69)) then (mo_bv (mf_313 N (s.1 69) (mI (mI s 69 ((s.1 69) + 1)) 70 ((s.2.2.1 27) (Int32.toNatClampNeg (s.1 69))))) (fun s1 => mf_68_305 N rc x2 s1)) else none
theorem mr_68_272 {X : Nat → Option zz_C} {h : zz_H} (hh : 111 ≤ h.length) {d : Nat} {N : Nat} {rc : Nat → Int32 → mS → mO} (hrc0 : ∀ {Q : Option Value → zz_H → Prop} {x2 : Int32} {s s' : mS} {v : Option Value}, rc 0 x2 s = some (s', v) → Q v (mH h s') → zz_E zp_P zt_tf zt_fd X (d + 9) zm_68 258 [(0, .ref 61), (2, .int x2)] [] (mH h s) Q) {Q : Option Value → zz_H → Prop} {x2 : Int32} {s s' : mS} {v : Option Value} (hf : mf_68_272 N rc x2 s = some (s', v)) (k : Q v (mH h s')) : zz_E zp_P zt_tf zt_fd X (d + 9) zm_68 272 [(0, .ref 61), (2, .int x2)] [] (mH h s) Q := by
  unfold mf_68_272 at hf
  obtain ⟨q0, hf⟩ := mo_if hf
  obtain ⟨s1, e, hf⟩ := mo_bv_ok hf
  exact mb_68_272 (d := d + 8) hh q0 (mr_313 (d := d + 0) hh e (mr_68_305 hh hrc0 hf k))
def mf_68_265 (N : Nat) (rc : Nat → Int32 → mS → mO) (x2 : Int32) (s : mS) : mO := if ¬ (s.1 66) = 0 then mf_68_320 N x2 s else mf_68_272 N rc x2 s
theorem mr_68_265 {X : Nat → Option zz_C} {h : zz_H} (hh : 111 ≤ h.length) {d : Nat} {N : Nat} {rc : Nat → Int32 → mS → mO} (hrc0 : ∀ {Q : Option Value → zz_H → Prop} {x2 : Int32} {s s' : mS} {v : Option Value}, rc 0 x2 s = some (s', v) → Q v (mH h s') → zz_E zp_P zt_tf zt_fd X (d + 9) zm_68 258 [(0, .ref 61), (2, .int x2)] [] (mH h s) Q) {Q : Option Value → zz_H → Prop} {x2 : Int32} {s s' : mS} {v : Option Value} (hf : mf_68_265 N rc x2 s = some (s', v)) (k : Q v (mH h s')) : zz_E zp_P zt_tf zt_fd X (d + 9) zm_68 265 [(0, .ref 61), (2, .int x2)] [] (mH h s) Q := by
  unfold mf_68_265 at hf
  refine mb_68_265 hh  (fun c => ?_) (fun c => ?_)
  · rw [if_pos c] at hf
    exact mr_68_320 hh hf k
  · rw [if_neg c] at hf
    exact mr_68_272 hh hrc0 hf k
def mf_68_258 (N : Nat) (rc : Nat → Int32 → mS → mO) (x2 : Int32) (s : mS) : mO := if (s.1 73) ≤ 0 then mf_68_320 N x2 s else mf_68_265 N rc x2 s
theorem mr_68_258 {X : Nat → Option zz_C} {h : zz_H} (hh : 111 ≤ h.length) {d : Nat} {N : Nat} {rc : Nat → Int32 → mS → mO} (hrc0 : ∀ {Q : Option Value → zz_H → Prop} {x2 : Int32} {s s' : mS} {v : Option Value}, rc 0 x2 s = some (s', v) → Q v (mH h s') → zz_E zp_P zt_tf zt_fd X (d + 9) zm_68 258 [(0, .ref 61), (2, .int x2)] [] (mH h s) Q) {Q : Option Value → zz_H → Prop} {x2 : Int32} {s s' : mS} {v : Option Value} (hf : mf_68_258 N rc x2 s = some (s', v)) (k : Q v (mH h s')) : zz_E zp_P zt_tf zt_fd X (d + 9) zm_68 258 [(0, .ref 61), (2, .int x2)] [] (mH h s) Q := by
  unfold mf_68_258 at hf
  refine mb_68_258 hh  (fun c => ?_) (fun c => ?_)
  · rw [if_pos c] at hf
    exact mr_68_320 hh hf k
  · rw [if_neg c] at hf
    exact mr_68_265 hh hrc0 hf k
def mf_68_L10 (N : Nat) : Nat → Nat → Int32 → mS → mO
  | 0, _, _, _ => none
  | n + 1, l, x2, s => if l = 0 then mf_68_258 N (mf_68_L10 N n) x2 s else none
theorem mr_68_L10 {X : Nat → Option zz_C} {h : zz_H} (hh : 111 ≤ h.length) {d : Nat} {N : Nat} : ∀ n : Nat, (∀ {Q : Option Value → zz_H → Prop} {x2 : Int32} {s s' : mS} {v : Option Value}, mf_68_L10 N n 0 x2 s = some (s', v) → Q v (mH h s') → zz_E zp_P zt_tf zt_fd X (d + 9) zm_68 258 [(0, .ref 61), (2, .int x2)] [] (mH h s) Q) := by
  intro n
  induction n with
  | zero => exact (fun hf _ => by cases hf)
  | succ n ih =>
    have h0 := @ih
    intro Q _ s s' v hf k
    unfold mf_68_L10 at hf
    rw [if_pos rfl] at hf
    exact mr_68_258 hh h0 hf k
def mf_68_243 (N : Nat) (x1 : Int32) (x2 : Int32) (s : mS) : mO := mo_bv (mf_310 N ((12 * (s.1 12)) + x1) 0 (-1) s) (fun s1 => mf_68_L10 N N 0 x2 s1)
theorem mr_68_243 {X : Nat → Option zz_C} {h : zz_H} (hh : 111 ≤ h.length) {d : Nat} {N : Nat} {Q : Option Value → zz_H → Prop} {x1 : Int32} {x2 : Int32} {s s' : mS} {v : Option Value} (hf : mf_68_243 N x1 x2 s = some (s', v)) (k : Q v (mH h s')) : zz_E zp_P zt_tf zt_fd X (d + 9) zm_68 243 [(0, .ref 61), (1, .int x1), (2, .int x2)] [] (mH h s) Q := by
  unfold mf_68_243 at hf
  obtain ⟨s1, e, hf⟩ := mo_bv_ok hf
  exact mb_68_243 (d := d + 8) hh  (mr_310 (d := d + 7) hh e (mr_68_L10 hh N hf k))
def mf_68_236 (N : Nat) (rc : Nat → Int32 → Int32 → Int32 → mS → mO) (x1 : Int32) (x2 : Int32) (x4 : Int32) (y1 : Int32) (y2 : Int32) (s : mS) : mO := if ¬ (y1 < 0 ∨ 8 ≤ Int32.toNatClampNeg y1) then (rc 0 x1 x2 (x4 + 1) (mA s 72 (upd (s.2.2.1 72) (Int32.toNatClampNeg y1) y2))) else none
theorem mr_68_236 {X : Nat → Option zz_C} {h : zz_H} (hh : 111 ≤ h.length) {d : Nat} {N : Nat} {rc : Nat → Int32 → Int32 → Int32 → mS → mO} (hrc0 : ∀ {Q : Option Value → zz_H → Prop} {x1 : Int32} {x2 : Int32} {x4 : Int32} {s s' : mS} {v : Option Value}, rc 0 x1 x2 x4 s = some (s', v) → Q v (mH h s') → zz_E zp_P zt_tf zt_fd X (d + 9) zm_68 154 [(0, .ref 61), (1, .int x1), (2, .int x2), (4, .int x4)] [] (mH h s) Q) {Q : Option Value → zz_H → Prop} {x1 : Int32} {x2 : Int32} {x4 : Int32} {y1 : Int32} {y2 : Int32} {s s' : mS} {v : Option Value} (hf : mf_68_236 N rc x1 x2 x4 y1 y2 s = some (s', v)) (k : Q v (mH h s')) : zz_E zp_P zt_tf zt_fd X (d + 9) zm_68 236 [(0, .ref 61), (1, .int x1), (2, .int x2), (4, .int x4)] [.int y2, .int y1, .ref 98] (mH h s) Q := by
  unfold mf_68_236 at hf
  obtain ⟨q0, hf⟩ := mo_if hf
  exact mb_68_236 hh q0 (hrc0 hf k)
def mf_68_234 (N : Nat) (rc : Nat → Int32 → Int32 → Int32 → mS → mO) (x1 : Int32) (x2 : Int32) (x4 : Int32) (x5 : Int32) (y1 : Int32) (s : mS) : mO := mf_68_236 N rc x1 x2 x4 y1 x5 s
theorem mr_68_234 {X : Nat → Option zz_C} {h : zz_H} (hh : 111 ≤ h.length) {d : Nat} {N : Nat} {rc : Nat → Int32 → Int32 → Int32 → mS → mO} (hrc0 : ∀ {Q : Option Value → zz_H → Prop} {x1 : Int32} {x2 : Int32} {x4 : Int32} {s s' : mS} {v : Option Value}, rc 0 x1 x2 x4 s = some (s', v) → Q v (mH h s') → zz_E zp_P zt_tf zt_fd X (d + 9) zm_68 154 [(0, .ref 61), (1, .int x1), (2, .int x2), (4, .int x4)] [] (mH h s) Q) {Q : Option Value → zz_H → Prop} {x1 : Int32} {x2 : Int32} {x4 : Int32} {x5 : Int32} {y1 : Int32} {s s' : mS} {v : Option Value} (hf : mf_68_234 N rc x1 x2 x4 x5 y1 s = some (s', v)) (k : Q v (mH h s')) : zz_E zp_P zt_tf zt_fd X (d + 9) zm_68 234 [(0, .ref 61), (1, .int x1), (2, .int x2), (4, .int x4), (5, .int x5)] [.int y1, .ref 98] (mH h s) Q := by
  unfold mf_68_234 at hf
  exact mb_68_234 hh  (mr_68_236 hh hrc0 hf k)
def mf_68_222 (N : Nat) (rc : Nat → Int32 → Int32 → Int32 → mS → mO) (x1 : Int32) (x2 : Int32) (x4 : Int32) (x5 : Int32) (y1 : Int32) (s : mS) : mO := if ¬ ((x5 + 1) < 0 ∨ 166300 ≤ Int32.toNatClampNeg (x5 + 1)) then (mf_68_236 N rc x1 x2 x4 y1 ((s.2.2.1 47) (Int32.toNatClampNeg (x5 + 1))) s) else none
theorem mr_68_222 {X : Nat → Option zz_C} {h : zz_H} (hh : 111 ≤ h.length) {d : Nat} {N : Nat} {rc : Nat → Int32 → Int32 → Int32 → mS → mO} (hrc0 : ∀ {Q : Option Value → zz_H → Prop} {x1 : Int32} {x2 : Int32} {x4 : Int32} {s s' : mS} {v : Option Value}, rc 0 x1 x2 x4 s = some (s', v) → Q v (mH h s') → zz_E zp_P zt_tf zt_fd X (d + 9) zm_68 154 [(0, .ref 61), (1, .int x1), (2, .int x2), (4, .int x4)] [] (mH h s) Q) {Q : Option Value → zz_H → Prop} {x1 : Int32} {x2 : Int32} {x4 : Int32} {x5 : Int32} {y1 : Int32} {s s' : mS} {v : Option Value} (hf : mf_68_222 N rc x1 x2 x4 x5 y1 s = some (s', v)) (k : Q v (mH h s')) : zz_E zp_P zt_tf zt_fd X (d + 9) zm_68 222 [(0, .ref 61), (1, .int x1), (2, .int x2), (4, .int x4), (5, .int x5)] [.int y1, .ref 98] (mH h s) Q := by
  unfold mf_68_222 at hf
  obtain ⟨q0, hf⟩ := mo_if hf
  exact mb_68_222 hh q0 (mr_68_236 hh hrc0 hf k)
def mf_68_205 (N : Nat) (rc : Nat → Int32 → Int32 → Int32 → mS → mO) (x1 : Int32) (x2 : Int32) (x4 : Int32) (x5 : Int32) (y1 : Int32) (y2 : Int32) (s : mS) : mO := if ¬ (y1 < 0 ∨ 8 ≤ Int32.toNatClampNeg y1) then (if ¬ (x5 < 0 ∨ 166300 ≤ Int32.toNatClampNeg x5) then (if ¬ ((s.2.2.1 47) (Int32.toNatClampNeg x5)) = 0 then mf_68_234 N rc x1 x2 x4 x5 x4 (mA s 71 (upd (s.2.2.1 71) (Int32.toNatClampNeg y1) y2)) else mf_68_222 N rc x1 x2 x4 x5 x4 (mA s 71 (upd (s.2.2.1 71) (Int32.toNatClampNeg y1) y2))) else none) else none
theorem mr_68_205 {X : Nat → Option zz_C} {h : zz_H} (hh : 111 ≤ h.length) {d : Nat} {N : Nat} {rc : Nat → Int32 → Int32 → Int32 → mS → mO} (hrc0 : ∀ {Q : Option Value → zz_H → Prop} {x1 : Int32} {x2 : Int32} {x4 : Int32} {s s' : mS} {v : Option Value}, rc 0 x1 x2 x4 s = some (s', v) → Q v (mH h s') → zz_E zp_P zt_tf zt_fd X (d + 9) zm_68 154 [(0, .ref 61), (1, .int x1), (2, .int x2), (4, .int x4)] [] (mH h s) Q) {Q : Option Value → zz_H → Prop} {x1 : Int32} {x2 : Int32} {x4 : Int32} {x5 : Int32} {y1 : Int32} {y2 : Int32} {s s' : mS} {v : Option Value} (hf : mf_68_205 N rc x1 x2 x4 x5 y1 y2 s = some (s', v)) (k : Q v (mH h s')) : zz_E zp_P zt_tf zt_fd X (d + 9) zm_68 205 [(0, .ref 61), (1, .int x1), (2, .int x2), (4, .int x4), (5, .int x5)] [.int y2, .int y1, .ref 97] (mH h s) Q := by
  unfold mf_68_205 at hf
  obtain ⟨q0, hf⟩ := mo_if hf
  obtain ⟨q1, hf⟩ := mo_if hf
  refine mb_68_205 hh q0 q1 (fun c => ?_) (fun c => ?_)
  · rw [if_pos c] at hf
    exact mr_68_234 hh hrc0 hf k
  · rw [if_neg c] at hf
    exact mr_68_222 hh hrc0 hf k
def mf_68_186 (N : Nat) (rc : Nat → Int32 → Int32 → Int32 → mS → mO) (x1 : Int32) (x2 : Int32) (x4 : Int32) (x5 : Int32) (y1 : Int32) (s : mS) : mO := mf_68_205 N rc x1 x2 x4 x5 y1 2 s
theorem mr_68_186 {X : Nat → Option zz_C} {h : zz_H} (hh : 111 ≤ h.length) {d : Nat} {N : Nat} {rc : Nat → Int32 → Int32 → Int32 → mS → mO} (hrc0 : ∀ {Q : Option Value → zz_H → Prop} {x1 : Int32} {x2 : Int32} {x4 : Int32} {s s' : mS} {v : Option Value}, rc 0 x1 x2 x4 s = some (s', v) → Q v (mH h s') → zz_E zp_P zt_tf zt_fd X (d + 9) zm_68 154 [(0, .ref 61), (1, .int x1), (2, .int x2), (4, .int x4)] [] (mH h s) Q) {Q : Option Value → zz_H → Prop} {x1 : Int32} {x2 : Int32} {x4 : Int32} {x5 : Int32} {y1 : Int32} {s s' : mS} {v : Option Value} (hf : mf_68_186 N rc x1 x2 x4 x5 y1 s = some (s', v)) (k : Q v (mH h s')) : zz_E zp_P zt_tf zt_fd X (d + 9) zm_68 186 [(0, .ref 61), (1, .int x1), (2, .int x2), (4, .int x4), (5, .int x5)] [.int y1, .ref 97] (mH h s) Q := by
  unfold mf_68_186 at hf
  exact mb_68_186 hh  (mr_68_205 hh hrc0 hf k)
def mf_68_200 (N : Nat) (rc : Nat → Int32 → Int32 → Int32 → mS → mO) (x1 : Int32) (x2 : Int32) (x4 : Int32) (x5 : Int32) (y1 : Int32) (s : mS) : mO := mf_68_205 N rc x1 x2 x4 x5 y1 0 s
theorem mr_68_200 {X : Nat → Option zz_C} {h : zz_H} (hh : 111 ≤ h.length) {d : Nat} {N : Nat} {rc : Nat → Int32 → Int32 → Int32 → mS → mO} (hrc0 : ∀ {Q : Option Value → zz_H → Prop} {x1 : Int32} {x2 : Int32} {x4 : Int32} {s s' : mS} {v : Option Value}, rc 0 x1 x2 x4 s = some (s', v) → Q v (mH h s') → zz_E zp_P zt_tf zt_fd X (d + 9) zm_68 154 [(0, .ref 61), (1, .int x1), (2, .int x2), (4, .int x4)] [] (mH h s) Q) {Q : Option Value → zz_H → Prop} {x1 : Int32} {x2 : Int32} {x4 : Int32} {x5 : Int32} {y1 : Int32} {s s' : mS} {v : Option Value} (hf : mf_68_200 N rc x1 x2 x4 x5 y1 s = some (s', v)) (k : Q v (mH h s')) : zz_E zp_P zt_tf zt_fd X (d + 9) zm_68 200 [(0, .ref 61), (1, .int x1), (2, .int x2), (4, .int x4), (5, .int x5)] [.int y1, .ref 97] (mH h s) Q := by
  unfold mf_68_200 at hf
  exact mb_68_200 hh  (mr_68_205 hh hrc0 hf k)
def mf_68_204 (N : Nat) (rc : Nat → Int32 → Int32 → Int32 → mS → mO) (x1 : Int32) (x2 : Int32) (x4 : Int32) (x5 : Int32) (y1 : Int32) (s : mS) : mO := mf_68_205 N rc x1 x2 x4 x5 y1 1 s
theorem mr_68_204 {X : Nat → Option zz_C} {h : zz_H} (hh : 111 ≤ h.length) {d : Nat} {N : Nat} {rc : Nat → Int32 → Int32 → Int32 → mS → mO} (hrc0 : ∀ {Q : Option Value → zz_H → Prop} {x1 : Int32} {x2 : Int32} {x4 : Int32} {s s' : mS} {v : Option Value}, rc 0 x1 x2 x4 s = some (s', v) → Q v (mH h s') → zz_E zp_P zt_tf zt_fd X (d + 9) zm_68 154 [(0, .ref 61), (1, .int x1), (2, .int x2), (4, .int x4)] [] (mH h s) Q) {Q : Option Value → zz_H → Prop} {x1 : Int32} {x2 : Int32} {x4 : Int32} {x5 : Int32} {y1 : Int32} {s s' : mS} {v : Option Value} (hf : mf_68_204 N rc x1 x2 x4 x5 y1 s = some (s', v)) (k : Q v (mH h s')) : zz_E zp_P zt_tf zt_fd X (d + 9) zm_68 204 [(0, .ref 61), (1, .int x1), (2, .int x2), (4, .int x4), (5, .int x5)] [.int y1, .ref 97] (mH h s) Q := by
  unfold mf_68_204 at hf
  exact mb_68_204 hh  (mr_68_205 hh hrc0 hf k)
def mf_68_190 (N : Nat) (rc : Nat → Int32 → Int32 → Int32 → mS → mO) (x1 : Int32) (x2 : Int32) (x4 : Int32) (x5 : Int32) (y1 : Int32) (s : mS) : mO := if ¬ (x5 < 0 ∨ 166300 ≤ Int32.toNatClampNeg x5) then (if ¬ ((s.2.2.1 47) (Int32.toNatClampNeg x5)) = 0 then mf_68_204 N rc x1 x2 x4 x5 y1 s else mf_68_200 N rc x1 x2 x4 x5 y1 s) else none
theorem mr_68_190 {X : Nat → Option zz_C} {h : zz_H} (hh : 111 ≤ h.length) {d : Nat} {N : Nat} {rc : Nat → Int32 → Int32 → Int32 → mS → mO} (hrc0 : ∀ {Q : Option Value → zz_H → Prop} {x1 : Int32} {x2 : Int32} {x4 : Int32} {s s' : mS} {v : Option Value}, rc 0 x1 x2 x4 s = some (s', v) → Q v (mH h s') → zz_E zp_P zt_tf zt_fd X (d + 9) zm_68 154 [(0, .ref 61), (1, .int x1), (2, .int x2), (4, .int x4)] [] (mH h s) Q) {Q : Option Value → zz_H → Prop} {x1 : Int32} {x2 : Int32} {x4 : Int32} {x5 : Int32} {y1 : Int32} {s s' : mS} {v : Option Value} (hf : mf_68_190 N rc x1 x2 x4 x5 y1 s = some (s', v)) (k : Q v (mH h s')) : zz_E zp_P zt_tf zt_fd X (d + 9) zm_68 190 [(0, .ref 61), (1, .int x1), (2, .int x2), (4, .int x4), (5, .int x5)] [.int y1, .ref 97] (mH h s) Q := by
  unfold mf_68_190 at hf
  obtain ⟨q0, hf⟩ := mo_if hf
  refine mb_68_190 hh q0 (fun c => ?_) (fun c => ?_)
  · rw [if_pos c] at hf
    exact mr_68_204 hh hrc0 hf k
  · rw [if_neg c] at hf
    exact mr_68_200 hh hrc0 hf k
def mf_68_161 (N : Nat) (rc : Nat → Int32 → Int32 → Int32 → mS → mO) (x1 : Int32) (x2 : Int32) (x4 : Int32) (s : mS) : mO := if ¬ ((2410 * x4) < 0 ∨ 166300 ≤ Int32.toNatClampNeg (2410 * x4)) then (if ¬ ((s.2.2.1 47) (Int32.toNatClampNeg (2410 * x4))) = (-1) then mf_68_190 N rc x1 x2 x4 (2410 * x4) x4 s else mf_68_186 N rc x1 x2 x4 (2410 * x4) x4 s) else none
theorem mr_68_161 {X : Nat → Option zz_C} {h : zz_H} (hh : 111 ≤ h.length) {d : Nat} {N : Nat} {rc : Nat → Int32 → Int32 → Int32 → mS → mO} (hrc0 : ∀ {Q : Option Value → zz_H → Prop} {x1 : Int32} {x2 : Int32} {x4 : Int32} {s s' : mS} {v : Option Value}, rc 0 x1 x2 x4 s = some (s', v) → Q v (mH h s') → zz_E zp_P zt_tf zt_fd X (d + 9) zm_68 154 [(0, .ref 61), (1, .int x1), (2, .int x2), (4, .int x4)] [] (mH h s) Q) {Q : Option Value → zz_H → Prop} {x1 : Int32} {x2 : Int32} {x4 : Int32} {s s' : mS} {v : Option Value} (hf : mf_68_161 N rc x1 x2 x4 s = some (s', v)) (k : Q v (mH h s')) : zz_E zp_P zt_tf zt_fd X (d + 9) zm_68 161 [(0, .ref 61), (1, .int x1), (2, .int x2), (4, .int x4)] [] (mH h s) Q := by
  unfold mf_68_161 at hf
  obtain ⟨q0, hf⟩ := mo_if hf
  refine mb_68_161 hh q0 (fun c => ?_) (fun c => ?_)
  · rw [if_pos c] at hf
    exact mr_68_190 hh hrc0 hf k
  · rw [if_neg c] at hf
    exact mr_68_186 hh hrc0 hf k
def mf_68_154 (N : Nat) (rc : Nat → Int32 → Int32 → Int32 → mS → mO) (x1 : Int32) (x2 : Int32) (x4 : Int32) (s : mS) : mO := if 8 ≤ x4 then mf_68_243 N x1 x2 s else mf_68_161 N rc x1 x2 x4 s
theorem mr_68_154 {X : Nat → Option zz_C} {h : zz_H} (hh : 111 ≤ h.length) {d : Nat} {N : Nat} {rc : Nat → Int32 → Int32 → Int32 → mS → mO} (hrc0 : ∀ {Q : Option Value → zz_H → Prop} {x1 : Int32} {x2 : Int32} {x4 : Int32} {s s' : mS} {v : Option Value}, rc 0 x1 x2 x4 s = some (s', v) → Q v (mH h s') → zz_E zp_P zt_tf zt_fd X (d + 9) zm_68 154 [(0, .ref 61), (1, .int x1), (2, .int x2), (4, .int x4)] [] (mH h s) Q) {Q : Option Value → zz_H → Prop} {x1 : Int32} {x2 : Int32} {x4 : Int32} {s s' : mS} {v : Option Value} (hf : mf_68_154 N rc x1 x2 x4 s = some (s', v)) (k : Q v (mH h s')) : zz_E zp_P zt_tf zt_fd X (d + 9) zm_68 154 [(0, .ref 61), (1, .int x1), (2, .int x2), (4, .int x4)] [] (mH h s) Q := by
  unfold mf_68_154 at hf
  refine mb_68_154 hh  (fun c => ?_) (fun c => ?_)
  · rw [if_pos c] at hf
    exact mr_68_243 hh hf k
  · rw [if_neg c] at hf
    exact mr_68_161 hh hrc0 hf k
def mf_68_L12 (N : Nat) : Nat → Nat → Int32 → Int32 → Int32 → mS → mO
  | 0, _, _, _, _, _ => none
  | n + 1, l, x1, x2, x4, s => if l = 0 then mf_68_154 N (mf_68_L12 N n) x1 x2 x4 s else none
theorem mr_68_L12 {X : Nat → Option zz_C} {h : zz_H} (hh : 111 ≤ h.length) {d : Nat} {N : Nat} : ∀ n : Nat, (∀ {Q : Option Value → zz_H → Prop} {x1 : Int32} {x2 : Int32} {x4 : Int32} {s s' : mS} {v : Option Value}, mf_68_L12 N n 0 x1 x2 x4 s = some (s', v) → Q v (mH h s') → zz_E zp_P zt_tf zt_fd X (d + 9) zm_68 154 [(0, .ref 61), (1, .int x1), (2, .int x2), (4, .int x4)] [] (mH h s) Q) := by
  intro n
  induction n with
  | zero => exact (fun hf _ => by cases hf)
  | succ n ih =>
    have h0 := @ih
    intro Q _ _ _ s s' v hf k
    unfold mf_68_L12 at hf
    rw [if_pos rfl] at hf
    exact mr_68_154 hh h0 hf k
def mf_68_61 (N : Nat) (x1 : Int32) (x2 : Int32) (x3 : Int32) (s : mS) : mO := if ¬ ((154240 : Int32) < 0 ∨ 166300 ≤ Int32.toNatClampNeg (154240 : Int32)) then (if ¬ ((154241 : Int32) < 0 ∨ 166300 ≤ Int32.toNatClampNeg (154241 : Int32)) then (mf_68_L12 N N 0 x1 x2 0 (mA (mA (mI (mI (mI (mI (mI (mI (mI (mI (mI (mI (mI (mI (mI (mI s 68 1) 60 0) 61 x3) 62 0) 63 0) 64 0) 65 0) 66 0) 67 (-1)) 87 0) 51 0) 79 0) 73 0) 48 154250) 47 (upd (s.2.2.1 47) (Int32.toNatClampNeg (154240 : Int32)) 1)) 47 (upd (upd (s.2.2.1 47) (Int32.toNatClampNeg (154240 : Int32)) 1) (Int32.toNatClampNeg (154241 : Int32)) 0))) else none) else none
theorem mr_68_61 {X : Nat → Option zz_C} {h : zz_H} (hh : 111 ≤ h.length) {d : Nat} {N : Nat} {Q : Option Value → zz_H → Prop} {x1 : Int32} {x2 : Int32} {x3 : Int32} {s s' : mS} {v : Option Value} (hf : mf_68_61 N x1 x2 x3 s = some (s', v)) (k : Q v (mH h s')) : zz_E zp_P zt_tf zt_fd X (d + 9) zm_68 61 [(0, .ref 61), (1, .int x1), (2, .int x2), (3, .int x3)] [] (mH h s) Q := by
  unfold mf_68_61 at hf
  obtain ⟨q0, hf⟩ := mo_if hf
  obtain ⟨q1, hf⟩ := mo_if hf
  exact mb_68_61 hh q0 q1 (mr_68_L12 hh N hf k)
def mf_68_52 (N : Nat) (x1 : Int32) (x2 : Int32) (x3 : Int32) (s : mS) : mO := if x3 ≤ 20000 then mf_68_61 N x1 x2 x3 s else mf_68_59 N  s
theorem mr_68_52 {X : Nat → Option zz_C} {h : zz_H} (hh : 111 ≤ h.length) {d : Nat} {N : Nat} {Q : Option Value → zz_H → Prop} {x1 : Int32} {x2 : Int32} {x3 : Int32} {s s' : mS} {v : Option Value} (hf : mf_68_52 N x1 x2 x3 s = some (s', v)) (k : Q v (mH h s')) : zz_E zp_P zt_tf zt_fd X (d + 9) zm_68 52 [(0, .ref 61), (1, .int x1), (2, .int x2), (3, .int x3)] [] (mH h s) Q := by
  unfold mf_68_52 at hf
  refine mb_68_52 hh  (fun c => ?_) (fun c => ?_)
  · rw [if_pos c] at hf
    exact mr_68_61 hh hf k
  · rw [if_neg c] at hf
    exact mr_68_59 hh hf k
def mf_68_47 (N : Nat) (x1 : Int32) (x2 : Int32) (x3 : Int32) (s : mS) : mO := if x3 < 1 then mf_68_59 N  s else mf_68_52 N x1 x2 x3 s
theorem mr_68_47 {X : Nat → Option zz_C} {h : zz_H} (hh : 111 ≤ h.length) {d : Nat} {N : Nat} {Q : Option Value → zz_H → Prop} {x1 : Int32} {x2 : Int32} {x3 : Int32} {s s' : mS} {v : Option Value} (hf : mf_68_47 N x1 x2 x3 s = some (s', v)) (k : Q v (mH h s')) : zz_E zp_P zt_tf zt_fd X (d + 9) zm_68 47 [(0, .ref 61), (1, .int x1), (2, .int x2), (3, .int x3)] [] (mH h s) Q := by
  unfold mf_68_47 at hf
  refine mb_68_47 hh  (fun c => ?_) (fun c => ?_)
  · rw [if_pos c] at hf
    exact mr_68_59 hh hf k
  · rw [if_neg c] at hf
    exact mr_68_52 hh hf k
def mf_68_41 (N : Nat) (x1 : Int32) (x2 : Int32) (x3 : Int32) (s : mS) : mO := if 7 < x2 then mf_68_59 N  s else mf_68_47 N x1 x2 x3 s
theorem mr_68_41 {X : Nat → Option zz_C} {h : zz_H} (hh : 111 ≤ h.length) {d : Nat} {N : Nat} {Q : Option Value → zz_H → Prop} {x1 : Int32} {x2 : Int32} {x3 : Int32} {s s' : mS} {v : Option Value} (hf : mf_68_41 N x1 x2 x3 s = some (s', v)) (k : Q v (mH h s')) : zz_E zp_P zt_tf zt_fd X (d + 9) zm_68 41 [(0, .ref 61), (1, .int x1), (2, .int x2), (3, .int x3)] [] (mH h s) Q := by
  unfold mf_68_41 at hf
  refine mb_68_41 hh  (fun c => ?_) (fun c => ?_)
  · rw [if_pos c] at hf
    exact mr_68_59 hh hf k
  · rw [if_neg c] at hf
    exact mr_68_47 hh hf k
def mf_68_36 (N : Nat) (x1 : Int32) (x2 : Int32) (x3 : Int32) (s : mS) : mO := if x2 < (-1) then mf_68_59 N  s else mf_68_41 N x1 x2 x3 s
theorem mr_68_36 {X : Nat → Option zz_C} {h : zz_H} (hh : 111 ≤ h.length) {d : Nat} {N : Nat} {Q : Option Value → zz_H → Prop} {x1 : Int32} {x2 : Int32} {x3 : Int32} {s s' : mS} {v : Option Value} (hf : mf_68_36 N x1 x2 x3 s = some (s', v)) (k : Q v (mH h s')) : zz_E zp_P zt_tf zt_fd X (d + 9) zm_68 36 [(0, .ref 61), (1, .int x1), (2, .int x2), (3, .int x3)] [] (mH h s) Q := by
  unfold mf_68_36 at hf
  refine mb_68_36 hh  (fun c => ?_) (fun c => ?_)
  · rw [if_pos c] at hf
    exact mr_68_59 hh hf k
  · rw [if_neg c] at hf
    exact mr_68_41 hh hf k
def mf_68_19 (N : Nat) (x1 : Int32) (x2 : Int32) (x3 : Int32) (s : mS) : mO := if ¬ (((12 * (s.1 12)) + x1) < 0 ∨ 24 ≤ Int32.toNatClampNeg ((12 * (s.1 12)) + x1)) then (if ¬ ((s.2.2.1 18) (Int32.toNatClampNeg ((12 * (s.1 12)) + x1))) = 0 then mf_68_59 N  s else mf_68_36 N x1 x2 x3 s) else none
theorem mr_68_19 {X : Nat → Option zz_C} {h : zz_H} (hh : 111 ≤ h.length) {d : Nat} {N : Nat} {Q : Option Value → zz_H → Prop} {x1 : Int32} {x2 : Int32} {x3 : Int32} {s s' : mS} {v : Option Value} (hf : mf_68_19 N x1 x2 x3 s = some (s', v)) (k : Q v (mH h s')) : zz_E zp_P zt_tf zt_fd X (d + 9) zm_68 19 [(0, .ref 61), (1, .int x1), (2, .int x2), (3, .int x3)] [] (mH h s) Q := by
  unfold mf_68_19 at hf
  obtain ⟨q0, hf⟩ := mo_if hf
  refine mb_68_19 hh q0 (fun c => ?_) (fun c => ?_)
  · rw [if_pos c] at hf
    exact mr_68_59 hh hf k
  · rw [if_neg c] at hf
    exact mr_68_36 hh hf k
def mf_68_11 (N : Nat) (x1 : Int32) (x2 : Int32) (x3 : Int32) (s : mS) : mO := if (s.1 14) ≤ x1 then mf_68_59 N  s else mf_68_19 N x1 x2 x3 s
theorem mr_68_11 {X : Nat → Option zz_C} {h : zz_H} (hh : 111 ≤ h.length) {d : Nat} {N : Nat} {Q : Option Value → zz_H → Prop} {x1 : Int32} {x2 : Int32} {x3 : Int32} {s s' : mS} {v : Option Value} (hf : mf_68_11 N x1 x2 x3 s = some (s', v)) (k : Q v (mH h s')) : zz_E zp_P zt_tf zt_fd X (d + 9) zm_68 11 [(0, .ref 61), (1, .int x1), (2, .int x2), (3, .int x3)] [] (mH h s) Q := by
  unfold mf_68_11 at hf
  refine mb_68_11 hh  (fun c => ?_) (fun c => ?_)
  · rw [if_pos c] at hf
    exact mr_68_59 hh hf k
  · rw [if_neg c] at hf
    exact mr_68_19 hh hf k
def mf_68_7 (N : Nat) (x1 : Int32) (x2 : Int32) (x3 : Int32) (s : mS) : mO := if x1 < 0 then mf_68_59 N  s else mf_68_11 N x1 x2 x3 s
theorem mr_68_7 {X : Nat → Option zz_C} {h : zz_H} (hh : 111 ≤ h.length) {d : Nat} {N : Nat} {Q : Option Value → zz_H → Prop} {x1 : Int32} {x2 : Int32} {x3 : Int32} {s s' : mS} {v : Option Value} (hf : mf_68_7 N x1 x2 x3 s = some (s', v)) (k : Q v (mH h s')) : zz_E zp_P zt_tf zt_fd X (d + 9) zm_68 7 [(0, .ref 61), (1, .int x1), (2, .int x2), (3, .int x3)] [] (mH h s) Q := by
  unfold mf_68_7 at hf
  refine mb_68_7 hh  (fun c => ?_) (fun c => ?_)
  · rw [if_pos c] at hf
    exact mr_68_59 hh hf k
  · rw [if_neg c] at hf
    exact mr_68_11 hh hf k
def mf_68_0 (N : Nat) (x1 : Int32) (x2 : Int32) (x3 : Int32) (s : mS) : mO := if (s.1 13) = 0 then mf_68_59 N  s else mf_68_7 N x1 x2 x3 s
theorem mr_68_0 {X : Nat → Option zz_C} {h : zz_H} (hh : 111 ≤ h.length) {d : Nat} {N : Nat} {Q : Option Value → zz_H → Prop} {x1 : Int32} {x2 : Int32} {x3 : Int32} {s s' : mS} {v : Option Value} (hf : mf_68_0 N x1 x2 x3 s = some (s', v)) (k : Q v (mH h s')) : zz_E zp_P zt_tf zt_fd X (d + 9) zm_68 0 [(0, .ref 61), (1, .int x1), (2, .int x2), (3, .int x3)] [] (mH h s) Q := by
  unfold mf_68_0 at hf
  refine mb_68_0 hh  (fun c => ?_) (fun c => ?_)
  · rw [if_pos c] at hf
    exact mr_68_59 hh hf k
  · rw [if_neg c] at hf
    exact mr_68_7 hh hf k
/-- run -/
def mf_68 (N : Nat) (x1 : Int32) (x2 : Int32) (x3 : Int32) (s : mS) : mO := mf_68_0 N x1 x2 x3 s
theorem mr_68 {X : Nat → Option zz_C} {h : zz_H} (hh : 111 ≤ h.length) {d : Nat} {N : Nat} {Q : Option Value → zz_H → Prop} {x1 : Int32} {x2 : Int32} {x3 : Int32} {s s' : mS} {v : Option Value} (hf : mf_68 N x1 x2 x3 s = some (s', v)) (k : Q v (mH h s')) : zz_E zp_P zt_tf zt_fd X (d + 9) zm_68 0 [(0, .ref 61), (1, .int x1), (2, .int x2), (3, .int x3)] [] (mH h s) Q := by
  unfold mf_68 at hf
  exact zz_E.weak (mr_68_0 hh hf k) rfl ⟨rfl, rfl, rfl, rfl, trivial⟩
/-! trouble (I)I -/
theorem mb_69_0 {X : Nat → Option zz_C} {h : zz_H} (hh : 111 ≤ h.length) {s : mS} {d : Nat} {Q : Option Value → zz_H → Prop} {x1 : Int32} (k1 : ¬ (s.1 68) = 0 → zz_E zp_P zt_tf zt_fd X d zm_69 9 [(0, .ref 61), (1, .int x1)] [] (mH h s) Q) (k2 : ¬ ¬ (s.1 68) = 0 → zz_E zp_P zt_tf zt_fd X d zm_69 7 [] [] (mH h s) Q) : zz_E zp_P zt_tf zt_fd X d zm_69 0 [(0, .ref 61), (1, .int x1)] [] (mH h s) Q := by
  refine zz_E.n 1 rfl rfl rfl ?_
  refine mE_g hh 4 (v := .int (s.1 68)) rfl rfl rfl ?_
  refine zz_E.b1 9 7 (A := ¬ (s.1 68) = 0) rfl (zz_cond_ne _ _) (by decide) rfl rfl (fun c => ?_) (fun c => ?_)
  · exact zz_E.weak (k1 c) rfl ⟨rfl, rfl, trivial⟩
  · exact zz_E.weak (k2 c) rfl trivial
theorem mb_69_7 {X : Nat → Option zz_C} {h : zz_H} (hh : 111 ≤ h.length) {s : mS} {d : Nat} {Q : Option Value → zz_H → Prop}  (k : Q (some (.int (-1))) (mH h s)) : zz_E zp_P zt_tf zt_fd X d zm_69 7 [] [] (mH h s) Q := by
  refine zz_E.c 8 (.int (-1)) rfl rfl rfl rfl ?_
  refine zz_E.ret rfl rfl rfl ?_
  exact k
theorem mb_69_9 {X : Nat → Option zz_C} {h : zz_H} (hh : 111 ≤ h.length) {s : mS} {d : Nat} {Q : Option Value → zz_H → Prop} {x1 : Int32} (c0 : x1 = 0 → zz_E zp_P zt_tf zt_fd X d zm_69 52 [(0, .ref 61)] [] (mH h s) Q) (c1 : x1 = 1 → zz_E zp_P zt_tf zt_fd X d zm_69 57 [(0, .ref 61)] [] (mH h s) Q) (c2 : x1 = 2 → zz_E zp_P zt_tf zt_fd X d zm_69 62 [(0, .ref 61)] [] (mH h s) Q) (c3 : x1 = 3 → zz_E zp_P zt_tf zt_fd X d zm_69 80 [(0, .ref 61)] [] (mH h s) Q) (c4 : x1 = 4 → zz_E zp_P zt_tf zt_fd X d zm_69 85 [(0, .ref 61)] [] (mH h s) Q) (c5 : x1 = 5 → zz_E zp_P zt_tf zt_fd X d zm_69 90 [(0, .ref 61)] [] (mH h s) Q) (c6 : x1 = 6 → zz_E zp_P zt_tf zt_fd X d zm_69 95 [(0, .ref 61)] [] (mH h s) Q) (kd : (Int32.toInt x1 < 0 ∨ 6 < Int32.toInt x1) → zz_E zp_P zt_tf zt_fd X d zm_69 100 [] [] (mH h s) Q) : zz_E zp_P zt_tf zt_fd X d zm_69 9 [(0, .ref 61), (1, .int x1)] [] (mH h s) Q := by
  refine zz_E.n 10 rfl rfl rfl ?_
  by_cases hx : Int32.toInt x1 < 0 ∨ 6 < Int32.toInt x1
  · exact zz_E.td 100 rfl hx (by decide) rfl (zz_E.weak (kd hx) rfl trivial)
  · have hv : Int32.toInt x1 = 0 ∨ Int32.toInt x1 = 1 ∨ Int32.toInt x1 = 2 ∨ Int32.toInt x1 = 3 ∨ Int32.toInt x1 = 4 ∨ Int32.toInt x1 = 5 ∨ Int32.toInt x1 = 6 := by omega
    rcases hv with hv | hv | hv | hv | hv | hv | hv
    · have e : x1 = 0 := Int32.toInt_inj.mp (hv.trans rfl)
      exact zz_E.tv 52 rfl e rfl (zz_E.weak (c0 e) rfl ⟨rfl, trivial⟩)
    · have e : x1 = 1 := Int32.toInt_inj.mp (hv.trans rfl)
      exact zz_E.tv 57 rfl e rfl (zz_E.weak (c1 e) rfl ⟨rfl, trivial⟩)
    · have e : x1 = 2 := Int32.toInt_inj.mp (hv.trans rfl)
      exact zz_E.tv 62 rfl e rfl (zz_E.weak (c2 e) rfl ⟨rfl, trivial⟩)
    · have e : x1 = 3 := Int32.toInt_inj.mp (hv.trans rfl)
      exact zz_E.tv 80 rfl e rfl (zz_E.weak (c3 e) rfl ⟨rfl, trivial⟩)
    · have e : x1 = 4 := Int32.toInt_inj.mp (hv.trans rfl)
      exact zz_E.tv 85 rfl e rfl (zz_E.weak (c4 e) rfl ⟨rfl, trivial⟩)
    · have e : x1 = 5 := Int32.toInt_inj.mp (hv.trans rfl)
      exact zz_E.tv 90 rfl e rfl (zz_E.weak (c5 e) rfl ⟨rfl, trivial⟩)
    · have e : x1 = 6 := Int32.toInt_inj.mp (hv.trans rfl)
      exact zz_E.tv 95 rfl e rfl (zz_E.weak (c6 e) rfl ⟨rfl, trivial⟩)
theorem mb_69_52 {X : Nat → Option zz_C} {h : zz_H} (hh : 111 ≤ h.length) {s : mS} {d : Nat} {Q : Option Value → zz_H → Prop}  (k : Q (some (.int (s.1 66))) (mH h s)) : zz_E zp_P zt_tf zt_fd X d zm_69 52 [(0, .ref 61)] [] (mH h s) Q := by
  refine zz_E.n 53 rfl rfl rfl ?_
  refine mE_g hh 56 (v := .int (s.1 66)) rfl rfl rfl ?_
  refine zz_E.ret rfl rfl rfl ?_
  exact k
theorem mb_69_57 {X : Nat → Option zz_C} {h : zz_H} (hh : 111 ≤ h.length) {s : mS} {d : Nat} {Q : Option Value → zz_H → Prop}  (k : Q (some (.int (s.1 67))) (mH h s)) : zz_E zp_P zt_tf zt_fd X d zm_69 57 [(0, .ref 61)] [] (mH h s) Q := by
  refine zz_E.n 58 rfl rfl rfl ?_
  refine mE_g hh 61 (v := .int (s.1 67)) rfl rfl rfl ?_
  refine zz_E.ret rfl rfl rfl ?_
  exact k
theorem mb_69_62 {X : Nat → Option zz_C} {h : zz_H} (hh : 111 ≤ h.length) {s : mS} {d : Nat} {Q : Option Value → zz_H → Prop}  (k1 : ¬ (s.1 66) = 9 → zz_E zp_P zt_tf zt_fd X d zm_69 78 [] [] (mH h s) Q) (k2 : ¬ ¬ (s.1 66) = 9 → zz_E zp_P zt_tf zt_fd X d zm_69 71 [(0, .ref 61)] [] (mH h s) Q) : zz_E zp_P zt_tf zt_fd X d zm_69 62 [(0, .ref 61)] [] (mH h s) Q := by
  refine zz_E.n 63 rfl rfl rfl ?_
  refine mE_g hh 66 (v := .int (s.1 66)) rfl rfl rfl ?_
  refine zz_E.c 68 (.int 9) rfl rfl rfl rfl ?_
  refine zz_E.b2 78 71 (A := ¬ (s.1 66) = 9) rfl (zz_cond_ne _ _) (by decide) rfl rfl (fun c => ?_) (fun c => ?_)
  · exact zz_E.weak (k1 c) rfl trivial
  · exact zz_E.weak (k2 c) rfl ⟨rfl, trivial⟩
theorem mb_69_71 {X : Nat → Option zz_C} {h : zz_H} (hh : 111 ≤ h.length) {s : mS} {d : Nat} {Q : Option Value → zz_H → Prop}  (k : zz_E zp_P zt_tf zt_fd X d zm_69 79 [] [.int (s.1 65)] (mH h s) Q) : zz_E zp_P zt_tf zt_fd X d zm_69 71 [(0, .ref 61)] [] (mH h s) Q := by
  refine zz_E.n 72 rfl rfl rfl ?_
  refine mE_g hh 75 (v := .int (s.1 65)) rfl rfl rfl ?_
  refine zz_E.n 79 rfl rfl rfl ?_
  exact zz_E.weak k rfl trivial
theorem mb_69_78 {X : Nat → Option zz_C} {h : zz_H} (hh : 111 ≤ h.length) {s : mS} {d : Nat} {Q : Option Value → zz_H → Prop}  (k : zz_E zp_P zt_tf zt_fd X d zm_69 79 [] [.int 0] (mH h s) Q) : zz_E zp_P zt_tf zt_fd X d zm_69 78 [] [] (mH h s) Q := by
  refine zz_E.c 79 (.int 0) rfl rfl rfl rfl ?_
  exact zz_E.weak k rfl trivial
theorem mb_69_79 {X : Nat → Option zz_C} {h : zz_H} (hh : 111 ≤ h.length) {s : mS} {d : Nat} {Q : Option Value → zz_H → Prop} {y0 : Int32} (k : Q (some (.int y0)) (mH h s)) : zz_E zp_P zt_tf zt_fd X d zm_69 79 [] [.int y0] (mH h s) Q := by
  refine zz_E.ret rfl rfl rfl ?_
  exact k
theorem mb_69_80 {X : Nat → Option zz_C} {h : zz_H} (hh : 111 ≤ h.length) {s : mS} {d : Nat} {Q : Option Value → zz_H → Prop}  (k : Q (some (.int (s.1 60))) (mH h s)) : zz_E zp_P zt_tf zt_fd X d zm_69 80 [(0, .ref 61)] [] (mH h s) Q := by
  refine zz_E.n 81 rfl rfl rfl ?_
  refine mE_g hh 84 (v := .int (s.1 60)) rfl rfl rfl ?_
  refine zz_E.ret rfl rfl rfl ?_
  exact k
theorem mb_69_85 {X : Nat → Option zz_C} {h : zz_H} (hh : 111 ≤ h.length) {s : mS} {d : Nat} {Q : Option Value → zz_H → Prop}  (k : Q (some (.int (s.1 62))) (mH h s)) : zz_E zp_P zt_tf zt_fd X d zm_69 85 [(0, .ref 61)] [] (mH h s) Q := by
  refine zz_E.n 86 rfl rfl rfl ?_
  refine mE_g hh 89 (v := .int (s.1 62)) rfl rfl rfl ?_
  refine zz_E.ret rfl rfl rfl ?_
  exact k
theorem mb_69_90 {X : Nat → Option zz_C} {h : zz_H} (hh : 111 ≤ h.length) {s : mS} {d : Nat} {Q : Option Value → zz_H → Prop}  (k : Q (some (.int (s.1 63))) (mH h s)) : zz_E zp_P zt_tf zt_fd X d zm_69 90 [(0, .ref 61)] [] (mH h s) Q := by
  refine zz_E.n 91 rfl rfl rfl ?_
  refine mE_g hh 94 (v := .int (s.1 63)) rfl rfl rfl ?_
  refine zz_E.ret rfl rfl rfl ?_
  exact k
theorem mb_69_95 {X : Nat → Option zz_C} {h : zz_H} (hh : 111 ≤ h.length) {s : mS} {d : Nat} {Q : Option Value → zz_H → Prop}  (k : Q (some (.int (s.1 64))) (mH h s)) : zz_E zp_P zt_tf zt_fd X d zm_69 95 [(0, .ref 61)] [] (mH h s) Q := by
  refine zz_E.n 96 rfl rfl rfl ?_
  refine mE_g hh 99 (v := .int (s.1 64)) rfl rfl rfl ?_
  refine zz_E.ret rfl rfl rfl ?_
  exact k
theorem mb_69_100 {X : Nat → Option zz_C} {h : zz_H} (hh : 111 ≤ h.length) {s : mS} {d : Nat} {Q : Option Value → zz_H → Prop}  (k : Q (some (.int (-1))) (mH h s)) : zz_E zp_P zt_tf zt_fd X d zm_69 100 [] [] (mH h s) Q := by
  refine zz_E.c 101 (.int (-1)) rfl rfl rfl rfl ?_
  refine zz_E.ret rfl rfl rfl ?_
  exact k
def mf_69_52 (N : Nat)  (s : mS) : mO := some (s, (some (.int (s.1 66))))
theorem mr_69_52 {X : Nat → Option zz_C} {h : zz_H} (hh : 111 ≤ h.length) {d : Nat} {N : Nat} {Q : Option Value → zz_H → Prop}  {s s' : mS} {v : Option Value} (hf : mf_69_52 N  s = some (s', v)) (k : Q v (mH h s')) : zz_E zp_P zt_tf zt_fd X (d + 0) zm_69 52 [(0, .ref 61)] [] (mH h s) Q := by
  unfold mf_69_52 at hf
  cases hf
  exact mb_69_52 hh  k
def mf_69_57 (N : Nat)  (s : mS) : mO := some (s, (some (.int (s.1 67))))
theorem mr_69_57 {X : Nat → Option zz_C} {h : zz_H} (hh : 111 ≤ h.length) {d : Nat} {N : Nat} {Q : Option Value → zz_H → Prop}  {s s' : mS} {v : Option Value} (hf : mf_69_57 N  s = some (s', v)) (k : Q v (mH h s')) : zz_E zp_P zt_tf zt_fd X (d + 0) zm_69 57 [(0, .ref 61)] [] (mH h s) Q := by
  unfold mf_69_57 at hf
  cases hf
  exact mb_69_57 hh  k
def mf_69_79 (N : Nat) (y0 : Int32) (s : mS) : mO := some (s, (some (.int y0)))
theorem mr_69_79 {X : Nat → Option zz_C} {h : zz_H} (hh : 111 ≤ h.length) {d : Nat} {N : Nat} {Q : Option Value → zz_H → Prop} {y0 : Int32} {s s' : mS} {v : Option Value} (hf : mf_69_79 N y0 s = some (s', v)) (k : Q v (mH h s')) : zz_E zp_P zt_tf zt_fd X (d + 0) zm_69 79 [] [.int y0] (mH h s) Q := by
  unfold mf_69_79 at hf
  cases hf
  exact mb_69_79 hh  k
def mf_69_78 (N : Nat)  (s : mS) : mO := mf_69_79 N 0 s
theorem mr_69_78 {X : Nat → Option zz_C} {h : zz_H} (hh : 111 ≤ h.length) {d : Nat} {N : Nat} {Q : Option Value → zz_H → Prop}  {s s' : mS} {v : Option Value} (hf : mf_69_78 N  s = some (s', v)) (k : Q v (mH h s')) : zz_E zp_P zt_tf zt_fd X (d + 0) zm_69 78 [] [] (mH h s) Q := by
  unfold mf_69_78 at hf
  exact mb_69_78 hh  (mr_69_79 hh hf k)
def mf_69_71 (N : Nat)  (s : mS) : mO := mf_69_79 N (s.1 65) s
theorem mr_69_71 {X : Nat → Option zz_C} {h : zz_H} (hh : 111 ≤ h.length) {d : Nat} {N : Nat} {Q : Option Value → zz_H → Prop}  {s s' : mS} {v : Option Value} (hf : mf_69_71 N  s = some (s', v)) (k : Q v (mH h s')) : zz_E zp_P zt_tf zt_fd X (d + 0) zm_69 71 [(0, .ref 61)] [] (mH h s) Q := by
  unfold mf_69_71 at hf
  exact mb_69_71 hh  (mr_69_79 hh hf k)
def mf_69_62 (N : Nat)  (s : mS) : mO := if ¬ (s.1 66) = 9 then mf_69_78 N  s else mf_69_71 N  s
theorem mr_69_62 {X : Nat → Option zz_C} {h : zz_H} (hh : 111 ≤ h.length) {d : Nat} {N : Nat} {Q : Option Value → zz_H → Prop}  {s s' : mS} {v : Option Value} (hf : mf_69_62 N  s = some (s', v)) (k : Q v (mH h s')) : zz_E zp_P zt_tf zt_fd X (d + 0) zm_69 62 [(0, .ref 61)] [] (mH h s) Q := by
  unfold mf_69_62 at hf
  refine mb_69_62 hh  (fun c => ?_) (fun c => ?_)
  · rw [if_pos c] at hf
    exact mr_69_78 hh hf k
  · rw [if_neg c] at hf
    exact mr_69_71 hh hf k
def mf_69_80 (N : Nat)  (s : mS) : mO := some (s, (some (.int (s.1 60))))
theorem mr_69_80 {X : Nat → Option zz_C} {h : zz_H} (hh : 111 ≤ h.length) {d : Nat} {N : Nat} {Q : Option Value → zz_H → Prop}  {s s' : mS} {v : Option Value} (hf : mf_69_80 N  s = some (s', v)) (k : Q v (mH h s')) : zz_E zp_P zt_tf zt_fd X (d + 0) zm_69 80 [(0, .ref 61)] [] (mH h s) Q := by
  unfold mf_69_80 at hf
  cases hf
  exact mb_69_80 hh  k
def mf_69_85 (N : Nat)  (s : mS) : mO := some (s, (some (.int (s.1 62))))
theorem mr_69_85 {X : Nat → Option zz_C} {h : zz_H} (hh : 111 ≤ h.length) {d : Nat} {N : Nat} {Q : Option Value → zz_H → Prop}  {s s' : mS} {v : Option Value} (hf : mf_69_85 N  s = some (s', v)) (k : Q v (mH h s')) : zz_E zp_P zt_tf zt_fd X (d + 0) zm_69 85 [(0, .ref 61)] [] (mH h s) Q := by
  unfold mf_69_85 at hf
  cases hf
  exact mb_69_85 hh  k
def mf_69_90 (N : Nat)  (s : mS) : mO := some (s, (some (.int (s.1 63))))
theorem mr_69_90 {X : Nat → Option zz_C} {h : zz_H} (hh : 111 ≤ h.length) {d : Nat} {N : Nat} {Q : Option Value → zz_H → Prop}  {s s' : mS} {v : Option Value} (hf : mf_69_90 N  s = some (s', v)) (k : Q v (mH h s')) : zz_E zp_P zt_tf zt_fd X (d + 0) zm_69 90 [(0, .ref 61)] [] (mH h s) Q := by
  unfold mf_69_90 at hf
  cases hf
  exact mb_69_90 hh  k
def mf_69_95 (N : Nat)  (s : mS) : mO := some (s, (some (.int (s.1 64))))
theorem mr_69_95 {X : Nat → Option zz_C} {h : zz_H} (hh : 111 ≤ h.length) {d : Nat} {N : Nat} {Q : Option Value → zz_H → Prop}  {s s' : mS} {v : Option Value} (hf : mf_69_95 N  s = some (s', v)) (k : Q v (mH h s')) : zz_E zp_P zt_tf zt_fd X (d + 0) zm_69 95 [(0, .ref 61)] [] (mH h s) Q := by
  unfold mf_69_95 at hf
  cases hf
  exact mb_69_95 hh  k
def mf_69_100 (N : Nat)  (s : mS) : mO := some (s, (some (.int (-1))))
theorem mr_69_100 {X : Nat → Option zz_C} {h : zz_H} (hh : 111 ≤ h.length) {d : Nat} {N : Nat} {Q : Option Value → zz_H → Prop}  {s s' : mS} {v : Option Value} (hf : mf_69_100 N  s = some (s', v)) (k : Q v (mH h s')) : zz_E zp_P zt_tf zt_fd X (d + 0) zm_69 100 [] [] (mH h s) Q := by
  unfold mf_69_100 at hf
  cases hf
  exact mb_69_100 hh  k
def mf_69_9 (N : Nat) (x1 : Int32) (s : mS) : mO := if (Int32.toInt x1 < 0 ∨ 6 < Int32.toInt x1) then mf_69_100 N  s else if x1 = 0 then mf_69_52 N  s else if x1 = 1 then mf_69_57 N  s else if x1 = 2 then mf_69_62 N  s else if x1 = 3 then mf_69_80 N  s else if x1 = 4 then mf_69_85 N  s else if x1 = 5 then mf_69_90 N  s else if x1 = 6 then mf_69_95 N  s else none
theorem mr_69_9 {X : Nat → Option zz_C} {h : zz_H} (hh : 111 ≤ h.length) {d : Nat} {N : Nat} {Q : Option Value → zz_H → Prop} {x1 : Int32} {s s' : mS} {v : Option Value} (hf : mf_69_9 N x1 s = some (s', v)) (k : Q v (mH h s')) : zz_E zp_P zt_tf zt_fd X (d + 0) zm_69 9 [(0, .ref 61), (1, .int x1)] [] (mH h s) Q := by
  unfold mf_69_9 at hf
  refine mb_69_9 hh  (fun c => ?_) (fun c => ?_) (fun c => ?_) (fun c => ?_) (fun c => ?_) (fun c => ?_) (fun c => ?_) (fun c => ?_)
  · rw [if_neg (by rw [c]; decide)] at hf
    rw [if_pos c] at hf
    exact mr_69_52 hh hf k
  · rw [if_neg (by rw [c]; decide)] at hf
    rw [if_neg (by rw [c]; decide)] at hf
    rw [if_pos c] at hf
    exact mr_69_57 hh hf k
  · rw [if_neg (by rw [c]; decide)] at hf
    rw [if_neg (by rw [c]; decide)] at hf
    rw [if_neg (by rw [c]; decide)] at hf
    rw [if_pos c] at hf
    exact mr_69_62 hh hf k
  · rw [if_neg (by rw [c]; decide)] at hf
    rw [if_neg (by rw [c]; decide)] at hf
    rw [if_neg (by rw [c]; decide)] at hf
    rw [if_neg (by rw [c]; decide)] at hf
    rw [if_pos c] at hf
    exact mr_69_80 hh hf k
  · rw [if_neg (by rw [c]; decide)] at hf
    rw [if_neg (by rw [c]; decide)] at hf
    rw [if_neg (by rw [c]; decide)] at hf
    rw [if_neg (by rw [c]; decide)] at hf
    rw [if_neg (by rw [c]; decide)] at hf
    rw [if_pos c] at hf
    exact mr_69_85 hh hf k
  · rw [if_neg (by rw [c]; decide)] at hf
    rw [if_neg (by rw [c]; decide)] at hf
    rw [if_neg (by rw [c]; decide)] at hf
    rw [if_neg (by rw [c]; decide)] at hf
    rw [if_neg (by rw [c]; decide)] at hf
    rw [if_neg (by rw [c]; decide)] at hf
    rw [if_pos c] at hf
    exact mr_69_90 hh hf k
  · rw [if_neg (by rw [c]; decide)] at hf
    rw [if_neg (by rw [c]; decide)] at hf
    rw [if_neg (by rw [c]; decide)] at hf
    rw [if_neg (by rw [c]; decide)] at hf
    rw [if_neg (by rw [c]; decide)] at hf
    rw [if_neg (by rw [c]; decide)] at hf
    rw [if_neg (by rw [c]; decide)] at hf
    rw [if_pos c] at hf
    exact mr_69_95 hh hf k
  · rw [if_pos c] at hf
    exact mr_69_100 hh hf k
def mf_69_7 (N : Nat)  (s : mS) : mO := some (s, (some (.int (-1))))
theorem mr_69_7 {X : Nat → Option zz_C} {h : zz_H} (hh : 111 ≤ h.length) {d : Nat} {N : Nat} {Q : Option Value → zz_H → Prop}  {s s' : mS} {v : Option Value} (hf : mf_69_7 N  s = some (s', v)) (k : Q v (mH h s')) : zz_E zp_P zt_tf zt_fd X (d + 0) zm_69 7 [] [] (mH h s) Q := by
  unfold mf_69_7 at hf
  cases hf
  exact mb_69_7 hh  k
def mf_69_0 (N : Nat) (x1 : Int32) (s : mS) : mO := if ¬ (s.1 68) = 0 then mf_69_9 N x1 s else mf_69_7 N  s
theorem mr_69_0 {X : Nat → Option zz_C} {h : zz_H} (hh : 111 ≤ h.length) {d : Nat} {N : Nat} {Q : Option Value → zz_H → Prop} {x1 : Int32} {s s' : mS} {v : Option Value} (hf : mf_69_0 N x1 s = some (s', v)) (k : Q v (mH h s')) : zz_E zp_P zt_tf zt_fd X (d + 0) zm_69 0 [(0, .ref 61), (1, .int x1)] [] (mH h s) Q := by
  unfold mf_69_0 at hf
  refine mb_69_0 hh  (fun c => ?_) (fun c => ?_)
  · rw [if_pos c] at hf
    exact mr_69_9 hh hf k
  · rw [if_neg c] at hf
    exact mr_69_7 hh hf k
/-- trouble -/
def mf_69 (N : Nat) (x1 : Int32) (s : mS) : mO := mf_69_0 N x1 s
theorem mr_69 {X : Nat → Option zz_C} {h : zz_H} (hh : 111 ≤ h.length) {d : Nat} {N : Nat} {Q : Option Value → zz_H → Prop} {x1 : Int32} {s s' : mS} {v : Option Value} (hf : mf_69 N x1 s = some (s', v)) (k : Q v (mH h s')) : zz_E zp_P zt_tf zt_fd X (d + 0) zm_69 0 [(0, .ref 61), (1, .int x1)] [] (mH h s) Q := by
  unfold mf_69 at hf
  exact zz_E.weak (mr_69_0 hh hf k) rfl ⟨rfl, rfl, trivial⟩
/-! out (I)I -/
theorem mb_70_0 {X : Nat → Option zz_C} {h : zz_H} (hh : 111 ≤ h.length) {s : mS} {d : Nat} {Q : Option Value → zz_H → Prop} {x1 : Int32} (k1 : x1 < 0 → zz_E zp_P zt_tf zt_fd X d zm_70 19 [] [] (mH h s) Q) (k2 : ¬ x1 < 0 → zz_E zp_P zt_tf zt_fd X d zm_70 4 [(0, .ref 61), (1, .int x1)] [] (mH h s) Q) : zz_E zp_P zt_tf zt_fd X d zm_70 0 [(0, .ref 61), (1, .int x1)] [] (mH h s) Q := by
  refine zz_E.n 1 rfl rfl rfl ?_
  refine zz_E.b1 19 4 (A := x1 < 0) rfl rfl (by decide) rfl rfl (fun c => ?_) (fun c => ?_)
  · exact zz_E.weak (k1 c) rfl trivial
  · exact zz_E.weak (k2 c) rfl ⟨rfl, rfl, trivial⟩
theorem mb_70_4 {X : Nat → Option zz_C} {h : zz_H} (hh : 111 ≤ h.length) {s : mS} {d : Nat} {Q : Option Value → zz_H → Prop} {x1 : Int32} (k1 : (s.1 87) ≤ x1 → zz_E zp_P zt_tf zt_fd X d zm_70 19 [] [] (mH h s) Q) (k2 : ¬ (s.1 87) ≤ x1 → zz_E zp_P zt_tf zt_fd X d zm_70 12 [(0, .ref 61), (1, .int x1)] [] (mH h s) Q) : zz_E zp_P zt_tf zt_fd X d zm_70 4 [(0, .ref 61), (1, .int x1)] [] (mH h s) Q := by
  refine zz_E.n 5 rfl rfl rfl ?_
  refine zz_E.n 6 rfl rfl rfl ?_
  refine mE_g hh 9 (v := .int (s.1 87)) rfl rfl rfl ?_
  refine zz_E.b2 19 12 (A := (s.1 87) ≤ x1) rfl rfl (by decide) rfl rfl (fun c => ?_) (fun c => ?_)
  · exact zz_E.weak (k1 c) rfl trivial
  · exact zz_E.weak (k2 c) rfl ⟨rfl, rfl, trivial⟩
theorem mb_70_12 {X : Nat → Option zz_C} {h : zz_H} (hh : 111 ≤ h.length) {s : mS} {d : Nat} {Q : Option Value → zz_H → Prop} {x1 : Int32} (k1 : x1 < 600 → zz_E zp_P zt_tf zt_fd X d zm_70 23 [(0, .ref 61), (1, .int x1)] [] (mH h s) Q) (k2 : ¬ x1 < 600 → zz_E zp_P zt_tf zt_fd X d zm_70 19 [] [] (mH h s) Q) : zz_E zp_P zt_tf zt_fd X d zm_70 12 [(0, .ref 61), (1, .int x1)] [] (mH h s) Q := by
  refine zz_E.n 13 rfl rfl rfl ?_
  refine zz_E.c 16 (.int 600) rfl rfl rfl rfl ?_
  refine zz_E.b2 23 19 (A := x1 < 600) rfl rfl (by decide) rfl rfl (fun c => ?_) (fun c => ?_)
  · exact zz_E.weak (k1 c) rfl ⟨rfl, rfl, trivial⟩
  · exact zz_E.weak (k2 c) rfl trivial
theorem mb_70_19 {X : Nat → Option zz_C} {h : zz_H} (hh : 111 ≤ h.length) {s : mS} {d : Nat} {Q : Option Value → zz_H → Prop}  (k : zz_E zp_P zt_tf zt_fd X d zm_70 29 [] [.int (-1)] (mH h s) Q) : zz_E zp_P zt_tf zt_fd X d zm_70 19 [] [] (mH h s) Q := by
  refine zz_E.c 20 (.int (-1)) rfl rfl rfl rfl ?_
  refine zz_E.n 29 rfl rfl rfl ?_
  exact zz_E.weak k rfl trivial
theorem mb_70_23 {X : Nat → Option zz_C} {h : zz_H} (hh : 111 ≤ h.length) {s : mS} {d : Nat} {Q : Option Value → zz_H → Prop} {x1 : Int32} (i28 : ¬ (x1 < 0 ∨ 600 ≤ Int32.toNatClampNeg x1)) (k : zz_E zp_P zt_tf zt_fd X d zm_70 29 [] [.int ((s.2.2.1 86) (Int32.toNatClampNeg x1))] (mH h s) Q) : zz_E zp_P zt_tf zt_fd X d zm_70 23 [(0, .ref 61), (1, .int x1)] [] (mH h s) Q := by
  refine zz_E.n 24 rfl rfl rfl ?_
  refine mE_g hh 27 (v := .ref 110) rfl rfl rfl ?_
  refine zz_E.n 28 rfl rfl rfl ?_
  refine mE_ba hh 29 49 (f := (s.2.2.1 86)) rfl (by decide) rfl rfl i28 rfl ?_
  exact zz_E.weak k rfl trivial
theorem mb_70_29 {X : Nat → Option zz_C} {h : zz_H} (hh : 111 ≤ h.length) {s : mS} {d : Nat} {Q : Option Value → zz_H → Prop} {y0 : Int32} (k : Q (some (.int y0)) (mH h s)) : zz_E zp_P zt_tf zt_fd X d zm_70 29 [] [.int y0] (mH h s) Q := by
  refine zz_E.ret rfl rfl rfl ?_
  exact k
def mf_70_29 (N : Nat) (y0 : Int32) (s : mS) : mO := some (s, (some (.int y0)))
theorem mr_70_29 {X : Nat → Option zz_C} {h : zz_H} (hh : 111 ≤ h.length) {d : Nat} {N : Nat} {Q : Option Value → zz_H → Prop} {y0 : Int32} {s s' : mS} {v : Option Value} (hf : mf_70_29 N y0 s = some (s', v)) (k : Q v (mH h s')) : zz_E zp_P zt_tf zt_fd X (d + 0) zm_70 29 [] [.int y0] (mH h s) Q := by
  unfold mf_70_29 at hf
  cases hf
  exact mb_70_29 hh  k
def mf_70_19 (N : Nat)  (s : mS) : mO := mf_70_29 N (-1) s
theorem mr_70_19 {X : Nat → Option zz_C} {h : zz_H} (hh : 111 ≤ h.length) {d : Nat} {N : Nat} {Q : Option Value → zz_H → Prop}  {s s' : mS} {v : Option Value} (hf : mf_70_19 N  s = some (s', v)) (k : Q v (mH h s')) : zz_E zp_P zt_tf zt_fd X (d + 0) zm_70 19 [] [] (mH h s) Q := by
  unfold mf_70_19 at hf
  exact mb_70_19 hh  (mr_70_29 hh hf k)
def mf_70_23 (N : Nat) (x1 : Int32) (s : mS) : mO := if ¬ (x1 < 0 ∨ 600 ≤ Int32.toNatClampNeg x1) then (mf_70_29 N ((s.2.2.1 86) (Int32.toNatClampNeg x1)) s) else none
theorem mr_70_23 {X : Nat → Option zz_C} {h : zz_H} (hh : 111 ≤ h.length) {d : Nat} {N : Nat} {Q : Option Value → zz_H → Prop} {x1 : Int32} {s s' : mS} {v : Option Value} (hf : mf_70_23 N x1 s = some (s', v)) (k : Q v (mH h s')) : zz_E zp_P zt_tf zt_fd X (d + 0) zm_70 23 [(0, .ref 61), (1, .int x1)] [] (mH h s) Q := by
  unfold mf_70_23 at hf
  obtain ⟨q0, hf⟩ := mo_if hf
  exact mb_70_23 hh q0 (mr_70_29 hh hf k)
def mf_70_12 (N : Nat) (x1 : Int32) (s : mS) : mO := if x1 < 600 then mf_70_23 N x1 s else mf_70_19 N  s
theorem mr_70_12 {X : Nat → Option zz_C} {h : zz_H} (hh : 111 ≤ h.length) {d : Nat} {N : Nat} {Q : Option Value → zz_H → Prop} {x1 : Int32} {s s' : mS} {v : Option Value} (hf : mf_70_12 N x1 s = some (s', v)) (k : Q v (mH h s')) : zz_E zp_P zt_tf zt_fd X (d + 0) zm_70 12 [(0, .ref 61), (1, .int x1)] [] (mH h s) Q := by
  unfold mf_70_12 at hf
  refine mb_70_12 hh  (fun c => ?_) (fun c => ?_)
  · rw [if_pos c] at hf
    exact mr_70_23 hh hf k
  · rw [if_neg c] at hf
    exact mr_70_19 hh hf k
def mf_70_4 (N : Nat) (x1 : Int32) (s : mS) : mO := if (s.1 87) ≤ x1 then mf_70_19 N  s else mf_70_12 N x1 s
theorem mr_70_4 {X : Nat → Option zz_C} {h : zz_H} (hh : 111 ≤ h.length) {d : Nat} {N : Nat} {Q : Option Value → zz_H → Prop} {x1 : Int32} {s s' : mS} {v : Option Value} (hf : mf_70_4 N x1 s = some (s', v)) (k : Q v (mH h s')) : zz_E zp_P zt_tf zt_fd X (d + 0) zm_70 4 [(0, .ref 61), (1, .int x1)] [] (mH h s) Q := by
  unfold mf_70_4 at hf
  refine mb_70_4 hh  (fun c => ?_) (fun c => ?_)
  · rw [if_pos c] at hf
    exact mr_70_19 hh hf k
  · rw [if_neg c] at hf
    exact mr_70_12 hh hf k
def mf_70_0 (N : Nat) (x1 : Int32) (s : mS) : mO := if x1 < 0 then mf_70_19 N  s else mf_70_4 N x1 s
theorem mr_70_0 {X : Nat → Option zz_C} {h : zz_H} (hh : 111 ≤ h.length) {d : Nat} {N : Nat} {Q : Option Value → zz_H → Prop} {x1 : Int32} {s s' : mS} {v : Option Value} (hf : mf_70_0 N x1 s = some (s', v)) (k : Q v (mH h s')) : zz_E zp_P zt_tf zt_fd X (d + 0) zm_70 0 [(0, .ref 61), (1, .int x1)] [] (mH h s) Q := by
  unfold mf_70_0 at hf
  refine mb_70_0 hh  (fun c => ?_) (fun c => ?_)
  · rw [if_pos c] at hf
    exact mr_70_19 hh hf k
  · rw [if_neg c] at hf
    exact mr_70_4 hh hf k
/-- out -/
def mf_70 (N : Nat) (x1 : Int32) (s : mS) : mO := mf_70_0 N x1 s
theorem mr_70 {X : Nat → Option zz_C} {h : zz_H} (hh : 111 ≤ h.length) {d : Nat} {N : Nat} {Q : Option Value → zz_H → Prop} {x1 : Int32} {s s' : mS} {v : Option Value} (hf : mf_70 N x1 s = some (s', v)) (k : Q v (mH h s')) : zz_E zp_P zt_tf zt_fd X (d + 0) zm_70 0 [(0, .ref 61), (1, .int x1)] [] (mH h s) Q := by
  unfold mf_70 at hf
  exact zz_E.weak (mr_70_0 hh hf k) rfl ⟨rfl, rfl, trivial⟩
/-! outs ()I -/
theorem mb_71_0 {X : Nat → Option zz_C} {h : zz_H} (hh : 111 ≤ h.length) {s : mS} {d : Nat} {Q : Option Value → zz_H → Prop}  (k : Q (some (.int (s.1 87))) (mH h s)) : zz_E zp_P zt_tf zt_fd X d zm_71 0 [(0, .ref 61)] [] (mH h s) Q := by
  refine zz_E.n 1 rfl rfl rfl ?_
  refine mE_g hh 4 (v := .int (s.1 87)) rfl rfl rfl ?_
  refine zz_E.ret rfl rfl rfl ?_
  exact k
def mf_71_0 (N : Nat)  (s : mS) : mO := some (s, (some (.int (s.1 87))))
theorem mr_71_0 {X : Nat → Option zz_C} {h : zz_H} (hh : 111 ≤ h.length) {d : Nat} {N : Nat} {Q : Option Value → zz_H → Prop}  {s s' : mS} {v : Option Value} (hf : mf_71_0 N  s = some (s', v)) (k : Q v (mH h s')) : zz_E zp_P zt_tf zt_fd X (d + 0) zm_71 0 [(0, .ref 61)] [] (mH h s) Q := by
  unfold mf_71_0 at hf
  cases hf
  exact mb_71_0 hh  k
/-- outs -/
def mf_71 (N : Nat)  (s : mS) : mO := mf_71_0 N  s
theorem mr_71 {X : Nat → Option zz_C} {h : zz_H} (hh : 111 ≤ h.length) {d : Nat} {N : Nat} {Q : Option Value → zz_H → Prop}  {s s' : mS} {v : Option Value} (hf : mf_71 N  s = some (s', v)) (k : Q v (mH h s')) : zz_E zp_P zt_tf zt_fd X (d + 0) zm_71 0 [(0, .ref 61)] [] (mH h s) Q := by
  unfold mf_71 at hf
  exact zz_E.weak (mr_71_0 hh hf k) rfl ⟨rfl, trivial⟩
/-! isShelfAt (I)Z -/
theorem mb_73_0 {X : Nat → Option zz_C} {h : zz_H} (hh : 111 ≤ h.length) {s : mS} {d : Nat} {Q : Option Value → zz_H → Prop} {x0 : Int32} (k1 : x0 < 0 → zz_E zp_P zt_tf zt_fd X d zm_73 14 [] [] (mH h s) Q) (k2 : ¬ x0 < 0 → zz_E zp_P zt_tf zt_fd X d zm_73 4 [(0, .int x0)] [] (mH h s) Q) : zz_E zp_P zt_tf zt_fd X d zm_73 0 [(0, .int x0)] [] (mH h s) Q := by
  refine zz_E.n 1 rfl rfl rfl ?_
  refine zz_E.b1 14 4 (A := x0 < 0) rfl rfl (by decide) rfl rfl (fun c => ?_) (fun c => ?_)
  · exact zz_E.weak (k1 c) rfl trivial
  · exact zz_E.weak (k2 c) rfl ⟨rfl, trivial⟩
theorem mb_73_4 {X : Nat → Option zz_C} {h : zz_H} (hh : 111 ≤ h.length) {s : mS} {d : Nat} {Q : Option Value → zz_H → Prop} {x0 : Int32} (k1 : 8 ≤ x0 → zz_E zp_P zt_tf zt_fd X d zm_73 14 [] [] (mH h s) Q) (k2 : ¬ 8 ≤ x0 → zz_E zp_P zt_tf zt_fd X d zm_73 10 [] [] (mH h s) Q) : zz_E zp_P zt_tf zt_fd X d zm_73 4 [(0, .int x0)] [] (mH h s) Q := by
  refine zz_E.n 5 rfl rfl rfl ?_
  refine zz_E.c 7 (.int 8) rfl rfl rfl rfl ?_
  refine zz_E.b2 14 10 (A := 8 ≤ x0) rfl rfl (by decide) rfl rfl (fun c => ?_) (fun c => ?_)
  · exact zz_E.weak (k1 c) rfl trivial
  · exact zz_E.weak (k2 c) rfl trivial
theorem mb_73_10 {X : Nat → Option zz_C} {h : zz_H} (hh : 111 ≤ h.length) {s : mS} {d : Nat} {Q : Option Value → zz_H → Prop}  (k : zz_E zp_P zt_tf zt_fd X d zm_73 15 [] [.int 1] (mH h s) Q) : zz_E zp_P zt_tf zt_fd X d zm_73 10 [] [] (mH h s) Q := by
  refine zz_E.c 11 (.int 1) rfl rfl rfl rfl ?_
  refine zz_E.n 15 rfl rfl rfl ?_
  exact zz_E.weak k rfl trivial
theorem mb_73_14 {X : Nat → Option zz_C} {h : zz_H} (hh : 111 ≤ h.length) {s : mS} {d : Nat} {Q : Option Value → zz_H → Prop}  (k : zz_E zp_P zt_tf zt_fd X d zm_73 15 [] [.int 0] (mH h s) Q) : zz_E zp_P zt_tf zt_fd X d zm_73 14 [] [] (mH h s) Q := by
  refine zz_E.c 15 (.int 0) rfl rfl rfl rfl ?_
  exact zz_E.weak k rfl trivial
theorem mb_73_15 {X : Nat → Option zz_C} {h : zz_H} (hh : 111 ≤ h.length) {s : mS} {d : Nat} {Q : Option Value → zz_H → Prop} {y0 : Int32} (k : Q (some (.int y0)) (mH h s)) (rb : zz_reti (some .boolean) y0 = true) : zz_E zp_P zt_tf zt_fd X d zm_73 15 [] [.int y0] (mH h s) Q := by
  refine zz_E.ret rfl rfl (if_pos ⟨rfl, rb⟩) ?_
  exact k
def mf_73_15 (N : Nat) (y0 : Int32) (s : mS) : mO := if zz_reti (some .boolean) y0 = true then some (s, (some (.int y0))) else none
theorem mr_73_15 {X : Nat → Option zz_C} {h : zz_H} (hh : 111 ≤ h.length) {d : Nat} {N : Nat} {Q : Option Value → zz_H → Prop} {y0 : Int32} {s s' : mS} {v : Option Value} (hf : mf_73_15 N y0 s = some (s', v)) (k : Q v (mH h s')) : zz_E zp_P zt_tf zt_fd X (d + 0) zm_73 15 [] [.int y0] (mH h s) Q := by
  unfold mf_73_15 at hf
  obtain ⟨rb, hf⟩ := mo_if hf
  cases hf
  exact mb_73_15 hh  k rb
def mf_73_14 (N : Nat)  (s : mS) : mO := mf_73_15 N 0 s
theorem mr_73_14 {X : Nat → Option zz_C} {h : zz_H} (hh : 111 ≤ h.length) {d : Nat} {N : Nat} {Q : Option Value → zz_H → Prop}  {s s' : mS} {v : Option Value} (hf : mf_73_14 N  s = some (s', v)) (k : Q v (mH h s')) : zz_E zp_P zt_tf zt_fd X (d + 0) zm_73 14 [] [] (mH h s) Q := by
  unfold mf_73_14 at hf
  exact mb_73_14 hh  (mr_73_15 hh hf k)
def mf_73_10 (N : Nat)  (s : mS) : mO := mf_73_15 N 1 s
theorem mr_73_10 {X : Nat → Option zz_C} {h : zz_H} (hh : 111 ≤ h.length) {d : Nat} {N : Nat} {Q : Option Value → zz_H → Prop}  {s s' : mS} {v : Option Value} (hf : mf_73_10 N  s = some (s', v)) (k : Q v (mH h s')) : zz_E zp_P zt_tf zt_fd X (d + 0) zm_73 10 [] [] (mH h s) Q := by
  unfold mf_73_10 at hf
  exact mb_73_10 hh  (mr_73_15 hh hf k)
def mf_73_4 (N : Nat) (x0 : Int32) (s : mS) : mO := if 8 ≤ x0 then mf_73_14 N  s else mf_73_10 N  s
theorem mr_73_4 {X : Nat → Option zz_C} {h : zz_H} (hh : 111 ≤ h.length) {d : Nat} {N : Nat} {Q : Option Value → zz_H → Prop} {x0 : Int32} {s s' : mS} {v : Option Value} (hf : mf_73_4 N x0 s = some (s', v)) (k : Q v (mH h s')) : zz_E zp_P zt_tf zt_fd X (d + 0) zm_73 4 [(0, .int x0)] [] (mH h s) Q := by
  unfold mf_73_4 at hf
  refine mb_73_4 hh  (fun c => ?_) (fun c => ?_)
  · rw [if_pos c] at hf
    exact mr_73_14 hh hf k
  · rw [if_neg c] at hf
    exact mr_73_10 hh hf k
def mf_73_0 (N : Nat) (x0 : Int32) (s : mS) : mO := if x0 < 0 then mf_73_14 N  s else mf_73_4 N x0 s
theorem mr_73_0 {X : Nat → Option zz_C} {h : zz_H} (hh : 111 ≤ h.length) {d : Nat} {N : Nat} {Q : Option Value → zz_H → Prop} {x0 : Int32} {s s' : mS} {v : Option Value} (hf : mf_73_0 N x0 s = some (s', v)) (k : Q v (mH h s')) : zz_E zp_P zt_tf zt_fd X (d + 0) zm_73 0 [(0, .int x0)] [] (mH h s) Q := by
  unfold mf_73_0 at hf
  refine mb_73_0 hh  (fun c => ?_) (fun c => ?_)
  · rw [if_pos c] at hf
    exact mr_73_14 hh hf k
  · rw [if_neg c] at hf
    exact mr_73_4 hh hf k
/-- isShelfAt -/
def mf_73 (N : Nat) (x0 : Int32) (s : mS) : mO := mf_73_0 N x0 s
theorem mr_73 {X : Nat → Option zz_C} {h : zz_H} (hh : 111 ≤ h.length) {d : Nat} {N : Nat} {Q : Option Value → zz_H → Prop} {x0 : Int32} {s s' : mS} {v : Option Value} (hf : mf_73 N x0 s = some (s', v)) (k : Q v (mH h s')) : zz_E zp_P zt_tf zt_fd X (d + 0) zm_73 0 [(0, .int x0)] [] (mH h s) Q := by
  unfold mf_73 at hf
  exact zz_E.weak (mr_73_0 hh hf k) rfl ⟨rfl, trivial⟩
/-! show (I)I -/
theorem mb_72_0 {X : Nat → Option zz_C} {h : zz_H} (hh : 111 ≤ h.length) {s : mS} {d : Nat} {Q : Option Value → zz_H → Prop} {x1 : Int32} (k : zz_E zp_P zt_tf zt_fd X d zm_73 0 [(0, .int x1)] [] (mH h s) (fun v h' => zz_E zp_P zt_tf zt_fd X (d + 1) zm_72 4 [(0, .ref 61), (1, .int x1)] (v.toList ++ []) h' Q)) : zz_E zp_P zt_tf zt_fd X (d + 1) zm_72 0 [(0, .ref 61), (1, .int x1)] [] (mH h s) Q := by
  refine zz_E.n 1 rfl rfl rfl ?_
  refine zz_E.cl (M' := zm_73) 4 rfl rfl (by decide) rfl rfl ⟨rfl, Nat.le_of_ble_eq_true rfl⟩ rfl ?_
  refine zz_E.mono k ?_
  intro v h' hE
  exact zz_E.weak hE rfl ⟨rfl, rfl, trivial⟩
theorem mb_72_4 {X : Nat → Option zz_C} {h : zz_H} (hh : 111 ≤ h.length) {s : mS} {d : Nat} {Q : Option Value → zz_H → Prop} {x1 : Int32} {y0 : Int32} (k1 : y0 = 0 → zz_E zp_P zt_tf zt_fd X d zm_72 21 [] [] (mH h s) Q) (k2 : ¬ y0 = 0 → zz_E zp_P zt_tf zt_fd X d zm_72 7 [(0, .ref 61), (1, .int x1)] [] (mH h s) Q) : zz_E zp_P zt_tf zt_fd X d zm_72 4 [(0, .ref 61), (1, .int x1)] [.int y0] (mH h s) Q := by
  refine zz_E.b1 21 7 (A := y0 = 0) rfl rfl (by decide) rfl rfl (fun c => ?_) (fun c => ?_)
  · exact zz_E.weak (k1 c) rfl trivial
  · exact zz_E.weak (k2 c) rfl ⟨rfl, rfl, trivial⟩
theorem mb_72_7 {X : Nat → Option zz_C} {h : zz_H} (hh : 111 ≤ h.length) {s : mS} {d : Nat} {Q : Option Value → zz_H → Prop} {x1 : Int32} (i16 : ¬ ((2410 * x1) < 0 ∨ 166300 ≤ Int32.toNatClampNeg (2410 * x1))) (k1 : ¬ ((s.2.2.1 47) (Int32.toNatClampNeg (2410 * x1))) = (-1) → zz_E zp_P zt_tf zt_fd X d zm_72 23 [(0, .ref 61), (1, .int x1)] [] (mH h s) Q) (k2 : ¬ ¬ ((s.2.2.1 47) (Int32.toNatClampNeg (2410 * x1))) = (-1) → zz_E zp_P zt_tf zt_fd X d zm_72 21 [] [] (mH h s) Q) : zz_E zp_P zt_tf zt_fd X d zm_72 7 [(0, .ref 61), (1, .int x1)] [] (mH h s) Q := by
  refine zz_E.n 8 rfl rfl rfl ?_
  refine mE_g hh 11 (v := .ref 89) rfl rfl rfl ?_
  refine zz_E.c 14 (.int 2410) rfl rfl rfl rfl ?_
  refine zz_E.n 15 rfl rfl rfl ?_
  refine zz_E.n 16 rfl rfl rfl ?_
  refine mE_ia hh 17 28 (f := (s.2.2.1 47)) rfl (by decide) rfl rfl i16 rfl ?_
  refine zz_E.c 18 (.int (-1)) rfl rfl rfl rfl ?_
  refine zz_E.b2 23 21 (A := ¬ ((s.2.2.1 47) (Int32.toNatClampNeg (2410 * x1))) = (-1)) rfl (zz_cond_ne _ _) (by decide) rfl rfl (fun c => ?_) (fun c => ?_)
  · exact zz_E.weak (k1 c) rfl ⟨rfl, rfl, trivial⟩
  · exact zz_E.weak (k2 c) rfl trivial
theorem mb_72_21 {X : Nat → Option zz_C} {h : zz_H} (hh : 111 ≤ h.length) {s : mS} {d : Nat} {Q : Option Value → zz_H → Prop}  (k : Q (some (.int (-1))) (mH h s)) : zz_E zp_P zt_tf zt_fd X d zm_72 21 [] [] (mH h s) Q := by
  refine zz_E.c 22 (.int (-1)) rfl rfl rfl rfl ?_
  refine zz_E.ret rfl rfl rfl ?_
  exact k
theorem mb_72_23 {X : Nat → Option zz_C} {h : zz_H} (hh : 111 ≤ h.length) {s : mS} {d : Nat} {Q : Option Value → zz_H → Prop} {x1 : Int32} (i37 : ¬ ((2410 * x1) < 0 ∨ 166300 ≤ Int32.toNatClampNeg (2410 * x1))) (k1 : ¬ ((s.2.2.1 47) (Int32.toNatClampNeg (2410 * x1))) = 0 → zz_E zp_P zt_tf zt_fd X d zm_72 60 [(0, .ref 61), (1, .int x1)] [] (mH h (mI s 87 0)) Q) (k2 : ¬ ¬ ((s.2.2.1 47) (Int32.toNatClampNeg (2410 * x1))) = 0 → zz_E zp_P zt_tf zt_fd X d zm_72 41 [(0, .ref 61), (1, .int x1)] [] (mH h (mI s 87 0)) Q) : zz_E zp_P zt_tf zt_fd X d zm_72 23 [(0, .ref 61), (1, .int x1)] [] (mH h s) Q := by
  refine zz_E.n 24 rfl rfl rfl ?_
  refine zz_E.c 25 (.int 0) rfl rfl rfl rfl ?_
  refine mE_p hh 28 rfl (by decide) rfl (mF_87 _ _) rfl ?_
  refine zz_E.n 29 rfl rfl rfl ?_
  refine mE_g hh 32 (v := .ref 89) rfl rfl rfl ?_
  refine zz_E.c 35 (.int 2410) rfl rfl rfl rfl ?_
  refine zz_E.n 36 rfl rfl rfl ?_
  refine zz_E.n 37 rfl rfl rfl ?_
  refine mE_ia hh 38 28 (f := (s.2.2.1 47)) rfl (by decide) rfl rfl i37 rfl ?_
  refine zz_E.b1 60 41 (A := ¬ ((s.2.2.1 47) (Int32.toNatClampNeg (2410 * x1))) = 0) rfl (zz_cond_ne _ _) (by decide) rfl rfl (fun c => ?_) (fun c => ?_)
  · exact zz_E.weak (k1 c) rfl ⟨rfl, rfl, trivial⟩
  · exact zz_E.weak (k2 c) rfl ⟨rfl, rfl, trivial⟩
theorem mb_72_41 {X : Nat → Option zz_C} {h : zz_H} (hh : 111 ≤ h.length) {s : mS} {d : Nat} {Q : Option Value → zz_H → Prop} {x1 : Int32} (i53 : ¬ (((2410 * x1) + 1) < 0 ∨ 166300 ≤ Int32.toNatClampNeg ((2410 * x1) + 1))) (k : zz_E zp_P zt_tf zt_fd X d zm_349 0 [(0, .ref 61), (1, .int ((s.2.2.1 47) (Int32.toNatClampNeg ((2410 * x1) + 1))))] [] (mH h s) (fun v h' => zz_E zp_P zt_tf zt_fd X (d + 1) zm_72 57 [(0, .ref 61)] (v.toList ++ []) h' Q)) : zz_E zp_P zt_tf zt_fd X (d + 1) zm_72 41 [(0, .ref 61), (1, .int x1)] [] (mH h s) Q := by
  refine zz_E.n 42 rfl rfl rfl ?_
  refine zz_E.n 43 rfl rfl rfl ?_
  refine mE_g hh 46 (v := .ref 89) rfl rfl rfl ?_
  refine zz_E.c 49 (.int 2410) rfl rfl rfl rfl ?_
  refine zz_E.n 50 rfl rfl rfl ?_
  refine zz_E.n 51 rfl rfl rfl ?_
  refine zz_E.c 52 (.int 1) rfl rfl rfl rfl ?_
  refine zz_E.n 53 rfl rfl rfl ?_
  refine mE_ia hh 54 28 (f := (s.2.2.1 47)) rfl (by decide) rfl rfl i53 rfl ?_
  refine mE_cv hh 57 (as := []) rfl rfl (Nat.le_of_ble_eq_true rfl) (Nat.le_of_ble_eq_true rfl) rfl (Nat.le_of_ble_eq_true rfl) rfl ?_
  refine zz_E.mono k ?_
  intro v h' hE
  exact zz_E.weak hE rfl ⟨rfl, trivial⟩
theorem mb_72_57 {X : Nat → Option zz_C} {h : zz_H} (hh : 111 ≤ h.length) {s : mS} {d : Nat} {Q : Option Value → zz_H → Prop}  (k : zz_E zp_P zt_tf zt_fd X d zm_72 69 [(0, .ref 61)] [] (mH h s) Q) : zz_E zp_P zt_tf zt_fd X d zm_72 57 [(0, .ref 61)] [] (mH h s) Q := by
  refine zz_E.n 69 rfl rfl rfl ?_
  exact zz_E.weak k rfl ⟨rfl, trivial⟩
theorem mb_72_60 {X : Nat → Option zz_C} {h : zz_H} (hh : 111 ≤ h.length) {s : mS} {d : Nat} {Q : Option Value → zz_H → Prop} {x1 : Int32} (k : zz_E zp_P zt_tf zt_fd X d zm_352 0 [(0, .ref 61), (1, .int (2410 * x1))] [] (mH h s) (fun v h' => zz_E zp_P zt_tf zt_fd X (d + 1) zm_72 69 [(0, .ref 61)] (v.toList ++ []) h' Q)) : zz_E zp_P zt_tf zt_fd X (d + 1) zm_72 60 [(0, .ref 61), (1, .int x1)] [] (mH h s) Q := by
  refine zz_E.n 61 rfl rfl rfl ?_
  refine zz_E.c 64 (.int 2410) rfl rfl rfl rfl ?_
  refine zz_E.n 65 rfl rfl rfl ?_
  refine zz_E.n 66 rfl rfl rfl ?_
  refine mE_cv hh 69 (as := []) rfl rfl (Nat.le_of_ble_eq_true rfl) (Nat.le_of_ble_eq_true rfl) rfl (Nat.le_of_ble_eq_true rfl) rfl ?_
  refine zz_E.mono k ?_
  intro v h' hE
  exact zz_E.weak hE rfl ⟨rfl, trivial⟩
theorem mb_72_69 {X : Nat → Option zz_C} {h : zz_H} (hh : 111 ≤ h.length) {s : mS} {d : Nat} {Q : Option Value → zz_H → Prop}  (k : Q (some (.int (s.1 87))) (mH h s)) : zz_E zp_P zt_tf zt_fd X d zm_72 69 [(0, .ref 61)] [] (mH h s) Q := by
  refine zz_E.n 70 rfl rfl rfl ?_
  refine mE_g hh 73 (v := .int (s.1 87)) rfl rfl rfl ?_
  refine zz_E.ret rfl rfl rfl ?_
  exact k
def mf_72_21 (N : Nat)  (s : mS) : mO := some (s, (some (.int (-1))))
theorem mr_72_21 {X : Nat → Option zz_C} {h : zz_H} (hh : 111 ≤ h.length) {d : Nat} {N : Nat} {Q : Option Value → zz_H → Prop}  {s s' : mS} {v : Option Value} (hf : mf_72_21 N  s = some (s', v)) (k : Q v (mH h s')) : zz_E zp_P zt_tf zt_fd X (d + 5) zm_72 21 [] [] (mH h s) Q := by
  unfold mf_72_21 at hf
  cases hf
  exact mb_72_21 hh  k
def mf_72_69 (N : Nat)  (s : mS) : mO := some (s, (some (.int (s.1 87))))
theorem mr_72_69 {X : Nat → Option zz_C} {h : zz_H} (hh : 111 ≤ h.length) {d : Nat} {N : Nat} {Q : Option Value → zz_H → Prop}  {s s' : mS} {v : Option Value} (hf : mf_72_69 N  s = some (s', v)) (k : Q v (mH h s')) : zz_E zp_P zt_tf zt_fd X (d + 5) zm_72 69 [(0, .ref 61)] [] (mH h s) Q := by
  unfold mf_72_69 at hf
  cases hf
  exact mb_72_69 hh  k
def mf_72_60 (N : Nat) (x1 : Int32) (s : mS) : mO := mo_bv (mf_352 N (2410 * x1) s) (fun s1 => mf_72_69 N  s1)
theorem mr_72_60 {X : Nat → Option zz_C} {h : zz_H} (hh : 111 ≤ h.length) {d : Nat} {N : Nat} {Q : Option Value → zz_H → Prop} {x1 : Int32} {s s' : mS} {v : Option Value} (hf : mf_72_60 N x1 s = some (s', v)) (k : Q v (mH h s')) : zz_E zp_P zt_tf zt_fd X (d + 5) zm_72 60 [(0, .ref 61), (1, .int x1)] [] (mH h s) Q := by
  unfold mf_72_60 at hf
  obtain ⟨s1, e, hf⟩ := mo_bv_ok hf
  exact mb_72_60 (d := d + 4) hh  (mr_352 (d := d + 0) hh e (mr_72_69 hh hf k))
def mf_72_57 (N : Nat)  (s : mS) : mO := mf_72_69 N  s
theorem mr_72_57 {X : Nat → Option zz_C} {h : zz_H} (hh : 111 ≤ h.length) {d : Nat} {N : Nat} {Q : Option Value → zz_H → Prop}  {s s' : mS} {v : Option Value} (hf : mf_72_57 N  s = some (s', v)) (k : Q v (mH h s')) : zz_E zp_P zt_tf zt_fd X (d + 5) zm_72 57 [(0, .ref 61)] [] (mH h s) Q := by
  unfold mf_72_57 at hf
  exact mb_72_57 hh  (mr_72_69 hh hf k)
def mf_72_41 (N : Nat) (x1 : Int32) (s : mS) : mO := if ¬ (((2410 * x1) + 1) < 0 ∨ 166300 ≤ Int32.toNatClampNeg ((2410 * x1) + 1)) then (mo_bv (mf_349 N ((s.2.2.1 47) (Int32.toNatClampNeg ((2410 * x1) + 1))) s) (fun s1 => mf_72_57 N  s1)) else none
theorem mr_72_41 {X : Nat → Option zz_C} {h : zz_H} (hh : 111 ≤ h.length) {d : Nat} {N : Nat} {Q : Option Value → zz_H → Prop} {x1 : Int32} {s s' : mS} {v : Option Value} (hf : mf_72_41 N x1 s = some (s', v)) (k : Q v (mH h s')) : zz_E zp_P zt_tf zt_fd X (d + 5) zm_72 41 [(0, .ref 61), (1, .int x1)] [] (mH h s) Q := by
  unfold mf_72_41 at hf
  obtain ⟨q0, hf⟩ := mo_if hf
  obtain ⟨s1, e, hf⟩ := mo_bv_ok hf
  exact mb_72_41 (d := d + 4) hh q0 (mr_349 (d := d + 3) hh e (mr_72_57 hh hf k))
def mf_72_23 (N : Nat) (x1 : Int32) (s : mS) : mO := if ¬ ((2410 * x1) < 0 ∨ 166300 ≤ Int32.toNatClampNeg (2410 * x1)) then (if ¬ ((s.2.2.1 47) (Int32.toNatClampNeg (2410 * x1))) = 0 then mf_72_60 N x1 (mI s 87 0) else mf_72_41 N x1 (mI s 87 0)) else none
theorem mr_72_23 {X : Nat → Option zz_C} {h : zz_H} (hh : 111 ≤ h.length) {d : Nat} {N : Nat} {Q : Option Value → zz_H → Prop} {x1 : Int32} {s s' : mS} {v : Option Value} (hf : mf_72_23 N x1 s = some (s', v)) (k : Q v (mH h s')) : zz_E zp_P zt_tf zt_fd X (d + 5) zm_72 23 [(0, .ref 61), (1, .int x1)] [] (mH h s) Q := by
  unfold mf_72_23 at hf
  obtain ⟨q0, hf⟩ := mo_if hf
  refine mb_72_23 hh q0 (fun c => ?_) (fun c => ?_)
  · rw [if_pos c] at hf
    exact mr_72_60 hh hf k
  · rw [if_neg c] at hf
    exact mr_72_41 hh hf k
def mf_72_7 (N : Nat) (x1 : Int32) (s : mS) : mO := if ¬ ((2410 * x1) < 0 ∨ 166300 ≤ Int32.toNatClampNeg (2410 * x1)) then (if ¬ ((s.2.2.1 47) (Int32.toNatClampNeg (2410 * x1))) = (-1) then mf_72_23 N x1 s else mf_72_21 N  s) else none
theorem mr_72_7 {X : Nat → Option zz_C} {h : zz_H} (hh : 111 ≤ h.length) {d : Nat} {N : Nat} {Q : Option Value → zz_H → Prop} {x1 : Int32} {s s' : mS} {v : Option Value} (hf : mf_72_7 N x1 s = some (s', v)) (k : Q v (mH h s')) : zz_E zp_P zt_tf zt_fd X (d + 5) zm_72 7 [(0, .ref 61), (1, .int x1)] [] (mH h s) Q := by
  unfold mf_72_7 at hf
  obtain ⟨q0, hf⟩ := mo_if hf
  refine mb_72_7 hh q0 (fun c => ?_) (fun c => ?_)
  · rw [if_pos c] at hf
    exact mr_72_23 hh hf k
  · rw [if_neg c] at hf
    exact mr_72_21 hh hf k
def mf_72_4 (N : Nat) (x1 : Int32) (y0 : Int32) (s : mS) : mO := if y0 = 0 then mf_72_21 N  s else mf_72_7 N x1 s
theorem mr_72_4 {X : Nat → Option zz_C} {h : zz_H} (hh : 111 ≤ h.length) {d : Nat} {N : Nat} {Q : Option Value → zz_H → Prop} {x1 : Int32} {y0 : Int32} {s s' : mS} {v : Option Value} (hf : mf_72_4 N x1 y0 s = some (s', v)) (k : Q v (mH h s')) : zz_E zp_P zt_tf zt_fd X (d + 5) zm_72 4 [(0, .ref 61), (1, .int x1)] [.int y0] (mH h s) Q := by
  unfold mf_72_4 at hf
  refine mb_72_4 hh  (fun c => ?_) (fun c => ?_)
  · rw [if_pos c] at hf
    exact mr_72_21 hh hf k
  · rw [if_neg c] at hf
    exact mr_72_7 hh hf k
def mf_72_0 (N : Nat) (x1 : Int32) (s : mS) : mO := mo_bi (mf_73 N x1 s) (fun s1 y => mf_72_4 N x1 y s1)
theorem mr_72_0 {X : Nat → Option zz_C} {h : zz_H} (hh : 111 ≤ h.length) {d : Nat} {N : Nat} {Q : Option Value → zz_H → Prop} {x1 : Int32} {s s' : mS} {v : Option Value} (hf : mf_72_0 N x1 s = some (s', v)) (k : Q v (mH h s')) : zz_E zp_P zt_tf zt_fd X (d + 5) zm_72 0 [(0, .ref 61), (1, .int x1)] [] (mH h s) Q := by
  unfold mf_72_0 at hf
  obtain ⟨s1, y, e, hf⟩ := mo_bi_ok hf
  exact mb_72_0 (d := d + 4) hh  (mr_73 (d := d + 4) hh e (mr_72_4 hh hf k))
/-- show -/
def mf_72 (N : Nat) (x1 : Int32) (s : mS) : mO := mf_72_0 N x1 s
theorem mr_72 {X : Nat → Option zz_C} {h : zz_H} (hh : 111 ≤ h.length) {d : Nat} {N : Nat} {Q : Option Value → zz_H → Prop} {x1 : Int32} {s s' : mS} {v : Option Value} (hf : mf_72 N x1 s = some (s', v)) (k : Q v (mH h s')) : zz_E zp_P zt_tf zt_fd X (d + 5) zm_72 0 [(0, .ref 61), (1, .int x1)] [] (mH h s) Q := by
  unfold mf_72 at hf
  exact zz_E.weak (mr_72_0 hh hf k) rfl ⟨rfl, rfl, trivial⟩
/-! set (II)Z -/
theorem mb_74_0 {X : Nat → Option zz_C} {h : zz_H} (hh : 111 ≤ h.length) {s : mS} {d : Nat} {Q : Option Value → zz_H → Prop} {x1 : Int32} {x2 : Int32} (k : zz_E zp_P zt_tf zt_fd X d zm_73 0 [(0, .int x1)] [] (mH h s) (fun v h' => zz_E zp_P zt_tf zt_fd X (d + 1) zm_74 4 [(0, .ref 61), (1, .int x1), (2, .int x2)] (v.toList ++ []) h' Q)) : zz_E zp_P zt_tf zt_fd X (d + 1) zm_74 0 [(0, .ref 61), (1, .int x1), (2, .int x2)] [] (mH h s) Q := by
  refine zz_E.n 1 rfl rfl rfl ?_
  refine zz_E.cl (M' := zm_73) 4 rfl rfl (by decide) rfl rfl ⟨rfl, Nat.le_of_ble_eq_true rfl⟩ rfl ?_
  refine zz_E.mono k ?_
  intro v h' hE
  exact zz_E.weak hE rfl ⟨rfl, rfl, rfl, trivial⟩
theorem mb_74_4 {X : Nat → Option zz_C} {h : zz_H} (hh : 111 ≤ h.length) {s : mS} {d : Nat} {Q : Option Value → zz_H → Prop} {x1 : Int32} {x2 : Int32} {y0 : Int32} (k1 : ¬ y0 = 0 → zz_E zp_P zt_tf zt_fd X d zm_74 9 [(0, .ref 61), (1, .int x1), (2, .int x2)] [] (mH h s) Q) (k2 : ¬ ¬ y0 = 0 → zz_E zp_P zt_tf zt_fd X d zm_74 7 [] [] (mH h s) Q) : zz_E zp_P zt_tf zt_fd X d zm_74 4 [(0, .ref 61), (1, .int x1), (2, .int x2)] [.int y0] (mH h s) Q := by
  refine zz_E.b1 9 7 (A := ¬ y0 = 0) rfl (zz_cond_ne _ _) (by decide) rfl rfl (fun c => ?_) (fun c => ?_)
  · exact zz_E.weak (k1 c) rfl ⟨rfl, rfl, rfl, trivial⟩
  · exact zz_E.weak (k2 c) rfl trivial
theorem mb_74_7 {X : Nat → Option zz_C} {h : zz_H} (hh : 111 ≤ h.length) {s : mS} {d : Nat} {Q : Option Value → zz_H → Prop}  (k : Q (some (.int 0)) (mH h s)) : zz_E zp_P zt_tf zt_fd X d zm_74 7 [] [] (mH h s) Q := by
  refine zz_E.c 8 (.int 0) rfl rfl rfl rfl ?_
  refine zz_E.ret rfl rfl rfl ?_
  exact k
theorem mb_74_9 {X : Nat → Option zz_C} {h : zz_H} (hh : 111 ≤ h.length) {s : mS} {d : Nat} {Q : Option Value → zz_H → Prop} {x1 : Int32} {x2 : Int32} (k : zz_E zp_P zt_tf zt_fd X d zm_75 0 [(0, .ref 61), (1, .int 0), (2, .int x2), (3, .int (2410 * x1))] [] (mH h s) (fun v h' => zz_E zp_P zt_tf zt_fd X (d + 1) zm_74 20 [] (v.toList ++ []) h' Q)) : zz_E zp_P zt_tf zt_fd X (d + 1) zm_74 9 [(0, .ref 61), (1, .int x1), (2, .int x2)] [] (mH h s) Q := by
  refine zz_E.n 10 rfl rfl rfl ?_
  refine zz_E.c 11 (.int 0) rfl rfl rfl rfl ?_
  refine zz_E.n 12 rfl rfl rfl ?_
  refine zz_E.c 15 (.int 2410) rfl rfl rfl rfl ?_
  refine zz_E.n 16 rfl rfl rfl ?_
  refine zz_E.n 17 rfl rfl rfl ?_
  refine mE_cv hh 20 (as := []) rfl rfl (Nat.le_of_ble_eq_true rfl) (Nat.le_of_ble_eq_true rfl) rfl (Nat.le_of_ble_eq_true rfl) rfl ?_
  refine zz_E.mono k ?_
  intro v h' hE
  exact zz_E.weak hE rfl trivial
theorem mb_74_20 {X : Nat → Option zz_C} {h : zz_H} (hh : 111 ≤ h.length) {s : mS} {d : Nat} {Q : Option Value → zz_H → Prop}  (k : Q (some (.int 1)) (mH h s)) : zz_E zp_P zt_tf zt_fd X d zm_74 20 [] [] (mH h s) Q := by
  refine zz_E.c 21 (.int 1) rfl rfl rfl rfl ?_
  refine zz_E.ret rfl rfl rfl ?_
  exact k
def mf_74_20 (N : Nat)  (s : mS) : mO := some (s, (some (.int 1)))
theorem mr_74_20 {X : Nat → Option zz_C} {h : zz_H} (hh : 111 ≤ h.length) {d : Nat} {N : Nat} {Q : Option Value → zz_H → Prop}  {s s' : mS} {v : Option Value} (hf : mf_74_20 N  s = some (s', v)) (k : Q v (mH h s')) : zz_E zp_P zt_tf zt_fd X (d + 3) zm_74 20 [] [] (mH h s) Q := by
  unfold mf_74_20 at hf
  cases hf
  exact mb_74_20 hh  k
def mf_74_9 (N : Nat) (x1 : Int32) (x2 : Int32) (s : mS) : mO := mo_bv (mf_75 N 0 x2 (2410 * x1) s) (fun s1 => mf_74_20 N  s1)
theorem mr_74_9 {X : Nat → Option zz_C} {h : zz_H} (hh : 111 ≤ h.length) {d : Nat} {N : Nat} {Q : Option Value → zz_H → Prop} {x1 : Int32} {x2 : Int32} {s s' : mS} {v : Option Value} (hf : mf_74_9 N x1 x2 s = some (s', v)) (k : Q v (mH h s')) : zz_E zp_P zt_tf zt_fd X (d + 3) zm_74 9 [(0, .ref 61), (1, .int x1), (2, .int x2)] [] (mH h s) Q := by
  unfold mf_74_9 at hf
  obtain ⟨s1, e, hf⟩ := mo_bv_ok hf
  exact mb_74_9 (d := d + 2) hh  (mr_75 (d := d + 0) hh e (mr_74_20 hh hf k))
def mf_74_7 (N : Nat)  (s : mS) : mO := some (s, (some (.int 0)))
theorem mr_74_7 {X : Nat → Option zz_C} {h : zz_H} (hh : 111 ≤ h.length) {d : Nat} {N : Nat} {Q : Option Value → zz_H → Prop}  {s s' : mS} {v : Option Value} (hf : mf_74_7 N  s = some (s', v)) (k : Q v (mH h s')) : zz_E zp_P zt_tf zt_fd X (d + 3) zm_74 7 [] [] (mH h s) Q := by
  unfold mf_74_7 at hf
  cases hf
  exact mb_74_7 hh  k
def mf_74_4 (N : Nat) (x1 : Int32) (x2 : Int32) (y0 : Int32) (s : mS) : mO := if ¬ y0 = 0 then mf_74_9 N x1 x2 s else mf_74_7 N  s
theorem mr_74_4 {X : Nat → Option zz_C} {h : zz_H} (hh : 111 ≤ h.length) {d : Nat} {N : Nat} {Q : Option Value → zz_H → Prop} {x1 : Int32} {x2 : Int32} {y0 : Int32} {s s' : mS} {v : Option Value} (hf : mf_74_4 N x1 x2 y0 s = some (s', v)) (k : Q v (mH h s')) : zz_E zp_P zt_tf zt_fd X (d + 3) zm_74 4 [(0, .ref 61), (1, .int x1), (2, .int x2)] [.int y0] (mH h s) Q := by
  unfold mf_74_4 at hf
  refine mb_74_4 hh  (fun c => ?_) (fun c => ?_)
  · rw [if_pos c] at hf
    exact mr_74_9 hh hf k
  · rw [if_neg c] at hf
    exact mr_74_7 hh hf k
def mf_74_0 (N : Nat) (x1 : Int32) (x2 : Int32) (s : mS) : mO := mo_bi (mf_73 N x1 s) (fun s1 y => mf_74_4 N x1 x2 y s1)
theorem mr_74_0 {X : Nat → Option zz_C} {h : zz_H} (hh : 111 ≤ h.length) {d : Nat} {N : Nat} {Q : Option Value → zz_H → Prop} {x1 : Int32} {x2 : Int32} {s s' : mS} {v : Option Value} (hf : mf_74_0 N x1 x2 s = some (s', v)) (k : Q v (mH h s')) : zz_E zp_P zt_tf zt_fd X (d + 3) zm_74 0 [(0, .ref 61), (1, .int x1), (2, .int x2)] [] (mH h s) Q := by
  unfold mf_74_0 at hf
  obtain ⟨s1, y, e, hf⟩ := mo_bi_ok hf
  exact mb_74_0 (d := d + 2) hh  (mr_73 (d := d + 2) hh e (mr_74_4 hh hf k))
/-- set -/
def mf_74 (N : Nat) (x1 : Int32) (x2 : Int32) (s : mS) : mO := mf_74_0 N x1 x2 s
theorem mr_74 {X : Nat → Option zz_C} {h : zz_H} (hh : 111 ≤ h.length) {d : Nat} {N : Nat} {Q : Option Value → zz_H → Prop} {x1 : Int32} {x2 : Int32} {s s' : mS} {v : Option Value} (hf : mf_74 N x1 x2 s = some (s', v)) (k : Q v (mH h s')) : zz_E zp_P zt_tf zt_fd X (d + 3) zm_74 0 [(0, .ref 61), (1, .int x1), (2, .int x2)] [] (mH h s) Q := by
  unfold mf_74 at hf
  exact zz_E.weak (mr_74_0 hh hf k) rfl ⟨rfl, rfl, rfl, trivial⟩
/-! add (II)Z -/
theorem mb_76_0 {X : Nat → Option zz_C} {h : zz_H} (hh : 111 ≤ h.length) {s : mS} {d : Nat} {Q : Option Value → zz_H → Prop} {x1 : Int32} {x2 : Int32} (k : zz_E zp_P zt_tf zt_fd X d zm_73 0 [(0, .int x1)] [] (mH h s) (fun v h' => zz_E zp_P zt_tf zt_fd X (d + 1) zm_76 4 [(0, .ref 61), (1, .int x1), (2, .int x2)] (v.toList ++ []) h' Q)) : zz_E zp_P zt_tf zt_fd X (d + 1) zm_76 0 [(0, .ref 61), (1, .int x1), (2, .int x2)] [] (mH h s) Q := by
  refine zz_E.n 1 rfl rfl rfl ?_
  refine zz_E.cl (M' := zm_73) 4 rfl rfl (by decide) rfl rfl ⟨rfl, Nat.le_of_ble_eq_true rfl⟩ rfl ?_
  refine zz_E.mono k ?_
  intro v h' hE
  exact zz_E.weak hE rfl ⟨rfl, rfl, rfl, trivial⟩
theorem mb_76_4 {X : Nat → Option zz_C} {h : zz_H} (hh : 111 ≤ h.length) {s : mS} {d : Nat} {Q : Option Value → zz_H → Prop} {x1 : Int32} {x2 : Int32} {y0 : Int32} (k1 : ¬ y0 = 0 → zz_E zp_P zt_tf zt_fd X d zm_76 9 [(0, .ref 61), (1, .int x1), (2, .int x2)] [] (mH h s) Q) (k2 : ¬ ¬ y0 = 0 → zz_E zp_P zt_tf zt_fd X d zm_76 7 [] [] (mH h s) Q) : zz_E zp_P zt_tf zt_fd X d zm_76 4 [(0, .ref 61), (1, .int x1), (2, .int x2)] [.int y0] (mH h s) Q := by
  refine zz_E.b1 9 7 (A := ¬ y0 = 0) rfl (zz_cond_ne _ _) (by decide) rfl rfl (fun c => ?_) (fun c => ?_)
  · exact zz_E.weak (k1 c) rfl ⟨rfl, rfl, rfl, trivial⟩
  · exact zz_E.weak (k2 c) rfl trivial
theorem mb_76_7 {X : Nat → Option zz_C} {h : zz_H} (hh : 111 ≤ h.length) {s : mS} {d : Nat} {Q : Option Value → zz_H → Prop}  (k : Q (some (.int 0)) (mH h s)) : zz_E zp_P zt_tf zt_fd X d zm_76 7 [] [] (mH h s) Q := by
  refine zz_E.c 8 (.int 0) rfl rfl rfl rfl ?_
  refine zz_E.ret rfl rfl rfl ?_
  exact k
theorem mb_76_9 {X : Nat → Option zz_C} {h : zz_H} (hh : 111 ≤ h.length) {s : mS} {d : Nat} {Q : Option Value → zz_H → Prop} {x1 : Int32} {x2 : Int32} (i20 : ¬ ((2410 * x1) < 0 ∨ 166300 ≤ Int32.toNatClampNeg (2410 * x1))) (k1 : ((s.2.2.1 47) (Int32.toNatClampNeg (2410 * x1))) = 1 → zz_E zp_P zt_tf zt_fd X d zm_76 41 [(0, .ref 61), (2, .int x2), (3, .int (2410 * x1))] [] (mH h s) Q) (k2 : ¬ ((s.2.2.1 47) (Int32.toNatClampNeg (2410 * x1))) = 1 → zz_E zp_P zt_tf zt_fd X d zm_76 25 [(0, .ref 61), (2, .int x2), (3, .int (2410 * x1))] [] (mH h s) Q) : zz_E zp_P zt_tf zt_fd X d zm_76 9 [(0, .ref 61), (1, .int x1), (2, .int x2)] [] (mH h s) Q := by
  refine zz_E.c 12 (.int 2410) rfl rfl rfl rfl ?_
  refine zz_E.n 13 rfl rfl rfl ?_
  refine zz_E.n 14 rfl rfl rfl ?_
  refine zz_E.n 15 rfl rfl rfl ?_
  refine zz_E.n 16 rfl rfl rfl ?_
  refine mE_g hh 19 (v := .ref 89) rfl rfl rfl ?_
  refine zz_E.n 20 rfl rfl rfl ?_
  refine mE_ia hh 21 28 (f := (s.2.2.1 47)) rfl (by decide) rfl rfl i20 rfl ?_
  refine zz_E.c 22 (.int 1) rfl rfl rfl rfl ?_
  refine zz_E.b2 41 25 (A := ((s.2.2.1 47) (Int32.toNatClampNeg (2410 * x1))) = 1) rfl rfl (by decide) rfl rfl (fun c => ?_) (fun c => ?_)
  · exact zz_E.weak (k1 c) rfl ⟨rfl, rfl, rfl, trivial⟩
  · exact zz_E.weak (k2 c) rfl ⟨rfl, rfl, rfl, trivial⟩
theorem mb_76_25 {X : Nat → Option zz_C} {h : zz_H} (hh : 111 ≤ h.length) {s : mS} {d : Nat} {Q : Option Value → zz_H → Prop} {x2 : Int32} {x3 : Int32} (i31 : ¬ (x3 < 0 ∨ 166300 ≤ Int32.toNatClampNeg x3)) (i40 : ¬ ((x3 + 1) < 0 ∨ 166300 ≤ Int32.toNatClampNeg (x3 + 1))) (k : zz_E zp_P zt_tf zt_fd X d zm_76 41 [(0, .ref 61), (2, .int x2), (3, .int x3)] [] (mH h (mA (mA s 47 (upd (s.2.2.1 47) (Int32.toNatClampNeg x3) 1)) 47 (upd (upd (s.2.2.1 47) (Int32.toNatClampNeg x3) 1) (Int32.toNatClampNeg (x3 + 1)) 0))) Q) : zz_E zp_P zt_tf zt_fd X d zm_76 25 [(0, .ref 61), (2, .int x2), (3, .int x3)] [] (mH h s) Q := by
  refine zz_E.n 26 rfl rfl rfl ?_
  refine mE_g hh 29 (v := .ref 89) rfl rfl rfl ?_
  refine zz_E.n 30 rfl rfl rfl ?_
  refine zz_E.c 31 (.int 1) rfl rfl rfl rfl ?_
  refine mE_is hh 32 28 (f := (s.2.2.1 47)) rfl (by decide) rfl rfl i31 (mA_89 _ _) rfl ?_
  refine zz_E.n 33 rfl rfl rfl ?_
  refine mE_g hh 36 (v := .ref 89) rfl rfl rfl ?_
  refine zz_E.n 37 rfl rfl rfl ?_
  refine zz_E.c 38 (.int 1) rfl rfl rfl rfl ?_
  refine zz_E.n 39 rfl rfl rfl ?_
  refine zz_E.c 40 (.int 0) rfl rfl rfl rfl ?_
  refine mE_is hh 41 28 (f := (upd (s.2.2.1 47) (Int32.toNatClampNeg x3) 1)) rfl (by decide) rfl rfl i40 (mA_89 _ _) rfl ?_
  exact zz_E.weak k rfl ⟨rfl, rfl, rfl, trivial⟩
theorem mb_76_41 {X : Nat → Option zz_C} {h : zz_H} (hh : 111 ≤ h.length) {s : mS} {d : Nat} {Q : Option Value → zz_H → Prop} {x2 : Int32} {x3 : Int32} (k : zz_E zp_P zt_tf zt_fd X d zm_77 0 [(0, .ref 61), (1, .int x3)] [] (mH h s) (fun v h' => zz_E zp_P zt_tf zt_fd X (d + 1) zm_76 46 [(0, .ref 61), (2, .int x2), (3, .int x3)] (v.toList ++ []) h' Q)) : zz_E zp_P zt_tf zt_fd X (d + 1) zm_76 41 [(0, .ref 61), (2, .int x2), (3, .int x3)] [] (mH h s) Q := by
  refine zz_E.n 42 rfl rfl rfl ?_
  refine zz_E.n 43 rfl rfl rfl ?_
  refine mE_cv hh 46 (as := []) rfl rfl (Nat.le_of_ble_eq_true rfl) (Nat.le_of_ble_eq_true rfl) rfl (Nat.le_of_ble_eq_true rfl) rfl ?_
  refine zz_E.mono k ?_
  intro v h' hE
  exact zz_E.weak hE rfl ⟨rfl, rfl, rfl, trivial⟩
theorem mb_76_46 {X : Nat → Option zz_C} {h : zz_H} (hh : 111 ≤ h.length) {s : mS} {d : Nat} {Q : Option Value → zz_H → Prop} {x2 : Int32} {x3 : Int32} {y0 : Int32} (k1 : ¬ y0 = 64 → zz_E zp_P zt_tf zt_fd X d zm_76 53 [(0, .ref 61), (2, .int x2), (3, .int x3)] [] (mH h s) Q) (k2 : ¬ ¬ y0 = 64 → zz_E zp_P zt_tf zt_fd X d zm_76 51 [] [] (mH h s) Q) : zz_E zp_P zt_tf zt_fd X d zm_76 46 [(0, .ref 61), (2, .int x2), (3, .int x3)] [.int y0] (mH h s) Q := by
  refine zz_E.c 48 (.int 64) rfl rfl rfl rfl ?_
  refine zz_E.b2 53 51 (A := ¬ y0 = 64) rfl (zz_cond_ne _ _) (by decide) rfl rfl (fun c => ?_) (fun c => ?_)
  · exact zz_E.weak (k1 c) rfl ⟨rfl, rfl, rfl, trivial⟩
  · exact zz_E.weak (k2 c) rfl trivial
theorem mb_76_51 {X : Nat → Option zz_C} {h : zz_H} (hh : 111 ≤ h.length) {s : mS} {d : Nat} {Q : Option Value → zz_H → Prop}  (k : Q (some (.int 0)) (mH h s)) : zz_E zp_P zt_tf zt_fd X d zm_76 51 [] [] (mH h s) Q := by
  refine zz_E.c 52 (.int 0) rfl rfl rfl rfl ?_
  refine zz_E.ret rfl rfl rfl ?_
  exact k
theorem mb_76_53 {X : Nat → Option zz_C} {h : zz_H} (hh : 111 ≤ h.length) {s : mS} {d : Nat} {Q : Option Value → zz_H → Prop} {x2 : Int32} {x3 : Int32} (k : zz_E zp_P zt_tf zt_fd X d zm_77 0 [(0, .ref 61), (1, .int x3)] [] (mH h s) (fun v h' => zz_E zp_P zt_tf zt_fd X (d + 1) zm_76 65 [(0, .ref 61), (2, .int x2), (3, .int x3)] (v.toList ++ [.int (x3 + 2), .ref 89]) h' Q)) : zz_E zp_P zt_tf zt_fd X (d + 1) zm_76 53 [(0, .ref 61), (2, .int x2), (3, .int x3)] [] (mH h s) Q := by
  refine zz_E.n 54 rfl rfl rfl ?_
  refine mE_g hh 57 (v := .ref 89) rfl rfl rfl ?_
  refine zz_E.n 58 rfl rfl rfl ?_
  refine zz_E.c 59 (.int 2) rfl rfl rfl rfl ?_
  refine zz_E.n 60 rfl rfl rfl ?_
  refine zz_E.n 61 rfl rfl rfl ?_
  refine zz_E.n 62 rfl rfl rfl ?_
  refine mE_cv hh 65 (as := [.int (x3 + 2), .ref 89]) rfl rfl (Nat.le_of_ble_eq_true rfl) (Nat.le_of_ble_eq_true rfl) rfl (Nat.le_of_ble_eq_true rfl) rfl ?_
  refine zz_E.mono k ?_
  intro v h' hE
  exact zz_E.weak hE rfl ⟨rfl, rfl, rfl, trivial⟩
theorem mb_76_65 {X : Nat → Option zz_C} {h : zz_H} (hh : 111 ≤ h.length) {s : mS} {d : Nat} {Q : Option Value → zz_H → Prop} {x2 : Int32} {x3 : Int32} {y1 : Int32} {y2 : Int32} (i67 : ¬ ((y1 + y2) < 0 ∨ 166300 ≤ Int32.toNatClampNeg (y1 + y2))) (i76 : ¬ ((x3 + 1) < 0 ∨ 166300 ≤ Int32.toNatClampNeg (x3 + 1))) (i79 : ¬ ((x3 + 1) < 0 ∨ 166300 ≤ Int32.toNatClampNeg (x3 + 1))) (k : Q (some (.int 1)) (mH h (mA (mA s 47 (upd (s.2.2.1 47) (Int32.toNatClampNeg (y1 + y2)) x2)) 47 (upd (upd (s.2.2.1 47) (Int32.toNatClampNeg (y1 + y2)) x2) (Int32.toNatClampNeg (x3 + 1)) (((upd (s.2.2.1 47) (Int32.toNatClampNeg (y1 + y2)) x2) (Int32.toNatClampNeg (x3 + 1))) + 1))))) : zz_E zp_P zt_tf zt_fd X d zm_76 65 [(0, .ref 61), (2, .int x2), (3, .int x3)] [.int y2, .int y1, .ref 89] (mH h s) Q := by
  refine zz_E.n 66 rfl rfl rfl ?_
  refine zz_E.n 67 rfl rfl rfl ?_
  refine mE_is hh 68 28 (f := (s.2.2.1 47)) rfl (by decide) rfl rfl i67 (mA_89 _ _) rfl ?_
  refine zz_E.n 69 rfl rfl rfl ?_
  refine mE_g hh 72 (v := .ref 89) rfl rfl rfl ?_
  refine zz_E.n 73 rfl rfl rfl ?_
  refine zz_E.c 74 (.int 1) rfl rfl rfl rfl ?_
  refine zz_E.n 75 rfl rfl rfl ?_
  refine zz_E.n 76 rfl rfl rfl ?_
  refine mE_ia hh 77 28 (f := (upd (s.2.2.1 47) (Int32.toNatClampNeg (y1 + y2)) x2)) rfl (by decide) rfl rfl i76 rfl ?_
  refine zz_E.c 78 (.int 1) rfl rfl rfl rfl ?_
  refine zz_E.n 79 rfl rfl rfl ?_
  refine mE_is hh 80 28 (f := (upd (s.2.2.1 47) (Int32.toNatClampNeg (y1 + y2)) x2)) rfl (by decide) rfl rfl i79 (mA_89 _ _) rfl ?_
  refine zz_E.c 81 (.int 1) rfl rfl rfl rfl ?_
  refine zz_E.ret rfl rfl rfl ?_
  exact k
def mf_76_65 (N : Nat) (x2 : Int32) (x3 : Int32) (y1 : Int32) (y2 : Int32) (s : mS) : mO := if ¬ ((y1 + y2) < 0 ∨ 166300 ≤ Int32.toNatClampNeg (y1 + y2)) then (if ¬ ((x3 + 1) < 0 ∨ 166300 ≤ Int32.toNatClampNeg (x3 + 1)) then (if ¬ ((x3 + 1) < 0 ∨ 166300 ≤ Int32.toNatClampNeg (x3 + 1)) then (some ((mA (mA s 47 (upd (s.2.2.1 47) (Int32.toNatClampNeg (y1 + y2)) x2)) 47 (upd (upd (s.2.2.1 47) (Int32.toNatClampNeg (y1 + y2)) x2) (Int32.toNatClampNeg (x3 + 1)) (((upd (s.2.2.1 47) (Int32.toNatClampNeg (y1 + y2)) x2) (Int32.toNatClampNeg (x3 + 1))) + 1))), (some (.int 1)))) else none) else none) else none
theorem mr_76_65 {X : Nat → Option zz_C} {h : zz_H} (hh : 111 ≤ h.length) {d : Nat} {N : Nat} {Q : Option Value → zz_H → Prop} {x2 : Int32} {x3 : Int32} {y1 : Int32} {y2 : Int32} {s s' : mS} {v : Option Value} (hf : mf_76_65 N x2 x3 y1 y2 s = some (s', v)) (k : Q v (mH h s')) : zz_E zp_P zt_tf zt_fd X (d + 1) zm_76 65 [(0, .ref 61), (2, .int x2), (3, .int x3)] [.int y2, .int y1, .ref 89] (mH h s) Q := by
  unfold mf_76_65 at hf
  obtain ⟨q0, hf⟩ := mo_if hf
  obtain ⟨q1, hf⟩ := mo_if hf
  obtain ⟨q2, hf⟩ := mo_if hf
  cases hf
  exact mb_76_65 hh q0 q1 q2 k
def mf_76_53 (N : Nat) (x2 : Int32) (x3 : Int32) (s : mS) : mO := mo_bi (mf_77 N x3 s) (fun s1 y => mf_76_65 N x2 x3 (x3 + 2) y s1)
theorem mr_76_53 {X : Nat → Option zz_C} {h : zz_H} (hh : 111 ≤ h.length) {d : Nat} {N : Nat} {Q : Option Value → zz_H → Prop} {x2 : Int32} {x3 : Int32} {s s' : mS} {v : Option Value} (hf : mf_76_53 N x2 x3 s = some (s', v)) (k : Q v (mH h s')) : zz_E zp_P zt_tf zt_fd X (d + 1) zm_76 53 [(0, .ref 61), (2, .int x2), (3, .int x3)] [] (mH h s) Q := by
  unfold mf_76_53 at hf
  obtain ⟨s1, y, e, hf⟩ := mo_bi_ok hf
  exact mb_76_53 (d := d + 0) hh  (mr_77 (d := d + 0) hh e (mr_76_65 hh hf k))
def mf_76_51 (N : Nat)  (s : mS) : mO := some (s, (some (.int 0)))
theorem mr_76_51 {X : Nat → Option zz_C} {h : zz_H} (hh : 111 ≤ h.length) {d : Nat} {N : Nat} {Q : Option Value → zz_H → Prop}  {s s' : mS} {v : Option Value} (hf : mf_76_51 N  s = some (s', v)) (k : Q v (mH h s')) : zz_E zp_P zt_tf zt_fd X (d + 1) zm_76 51 [] [] (mH h s) Q := by
  unfold mf_76_51 at hf
  cases hf
  exact mb_76_51 hh  k
def mf_76_46 (N : Nat) (x2 : Int32) (x3 : Int32) (y0 : Int32) (s : mS) : mO := if ¬ y0 = 64 then mf_76_53 N x2 x3 s else mf_76_51 N  s
theorem mr_76_46 {X : Nat → Option zz_C} {h : zz_H} (hh : 111 ≤ h.length) {d : Nat} {N : Nat} {Q : Option Value → zz_H → Prop} {x2 : Int32} {x3 : Int32} {y0 : Int32} {s s' : mS} {v : Option Value} (hf : mf_76_46 N x2 x3 y0 s = some (s', v)) (k : Q v (mH h s')) : zz_E zp_P zt_tf zt_fd X (d + 1) zm_76 46 [(0, .ref 61), (2, .int x2), (3, .int x3)] [.int y0] (mH h s) Q := by
  unfold mf_76_46 at hf
  refine mb_76_46 hh  (fun c => ?_) (fun c => ?_)
  · rw [if_pos c] at hf
    exact mr_76_53 hh hf k
  · rw [if_neg c] at hf
    exact mr_76_51 hh hf k
def mf_76_41 (N : Nat) (x2 : Int32) (x3 : Int32) (s : mS) : mO := mo_bi (mf_77 N x3 s) (fun s1 y => mf_76_46 N x2 x3 y s1)
theorem mr_76_41 {X : Nat → Option zz_C} {h : zz_H} (hh : 111 ≤ h.length) {d : Nat} {N : Nat} {Q : Option Value → zz_H → Prop} {x2 : Int32} {x3 : Int32} {s s' : mS} {v : Option Value} (hf : mf_76_41 N x2 x3 s = some (s', v)) (k : Q v (mH h s')) : zz_E zp_P zt_tf zt_fd X (d + 1) zm_76 41 [(0, .ref 61), (2, .int x2), (3, .int x3)] [] (mH h s) Q := by
  unfold mf_76_41 at hf
  obtain ⟨s1, y, e, hf⟩ := mo_bi_ok hf
  exact mb_76_41 (d := d + 0) hh  (mr_77 (d := d + 0) hh e (mr_76_46 hh hf k))
def mf_76_25 (N : Nat) (x2 : Int32) (x3 : Int32) (s : mS) : mO := if ¬ (x3 < 0 ∨ 166300 ≤ Int32.toNatClampNeg x3) then (if ¬ ((x3 + 1) < 0 ∨ 166300 ≤ Int32.toNatClampNeg (x3 + 1)) then (mf_76_41 N x2 x3 (mA (mA s 47 (upd (s.2.2.1 47) (Int32.toNatClampNeg x3) 1)) 47 (upd (upd (s.2.2.1 47) (Int32.toNatClampNeg x3) 1) (Int32.toNatClampNeg (x3 + 1)) 0))) else none) else none
theorem mr_76_25 {X : Nat → Option zz_C} {h : zz_H} (hh : 111 ≤ h.length) {d : Nat} {N : Nat} {Q : Option Value → zz_H → Prop} {x2 : Int32} {x3 : Int32} {s s' : mS} {v : Option Value} (hf : mf_76_25 N x2 x3 s = some (s', v)) (k : Q v (mH h s')) : zz_E zp_P zt_tf zt_fd X (d + 1) zm_76 25 [(0, .ref 61), (2, .int x2), (3, .int x3)] [] (mH h s) Q := by
  unfold mf_76_25 at hf
  obtain ⟨q0, hf⟩ := mo_if hf
  obtain ⟨q1, hf⟩ := mo_if hf
  exact mb_76_25 hh q0 q1 (mr_76_41 hh hf k)
def mf_76_9 (N : Nat) (x1 : Int32) (x2 : Int32) (s : mS) : mO := if ¬ ((2410 * x1) < 0 ∨ 166300 ≤ Int32.toNatClampNeg (2410 * x1)) then (if ((s.2.2.1 47) (Int32.toNatClampNeg (2410 * x1))) = 1 then mf_76_41 N x2 (2410 * x1) s else mf_76_25 N x2 (2410 * x1) s) else none
theorem mr_76_9 {X : Nat → Option zz_C} {h : zz_H} (hh : 111 ≤ h.length) {d : Nat} {N : Nat} {Q : Option Value → zz_H → Prop} {x1 : Int32} {x2 : Int32} {s s' : mS} {v : Option Value} (hf : mf_76_9 N x1 x2 s = some (s', v)) (k : Q v (mH h s')) : zz_E zp_P zt_tf zt_fd X (d + 1) zm_76 9 [(0, .ref 61), (1, .int x1), (2, .int x2)] [] (mH h s) Q := by
  unfold mf_76_9 at hf
  obtain ⟨q0, hf⟩ := mo_if hf
  refine mb_76_9 hh q0 (fun c => ?_) (fun c => ?_)
  · rw [if_pos c] at hf
    exact mr_76_41 hh hf k
  · rw [if_neg c] at hf
    exact mr_76_25 hh hf k
def mf_76_7 (N : Nat)  (s : mS) : mO := some (s, (some (.int 0)))
theorem mr_76_7 {X : Nat → Option zz_C} {h : zz_H} (hh : 111 ≤ h.length) {d : Nat} {N : Nat} {Q : Option Value → zz_H → Prop}  {s s' : mS} {v : Option Value} (hf : mf_76_7 N  s = some (s', v)) (k : Q v (mH h s')) : zz_E zp_P zt_tf zt_fd X (d + 1) zm_76 7 [] [] (mH h s) Q := by
  unfold mf_76_7 at hf
  cases hf
  exact mb_76_7 hh  k
def mf_76_4 (N : Nat) (x1 : Int32) (x2 : Int32) (y0 : Int32) (s : mS) : mO := if ¬ y0 = 0 then mf_76_9 N x1 x2 s else mf_76_7 N  s
theorem mr_76_4 {X : Nat → Option zz_C} {h : zz_H} (hh : 111 ≤ h.length) {d : Nat} {N : Nat} {Q : Option Value → zz_H → Prop} {x1 : Int32} {x2 : Int32} {y0 : Int32} {s s' : mS} {v : Option Value} (hf : mf_76_4 N x1 x2 y0 s = some (s', v)) (k : Q v (mH h s')) : zz_E zp_P zt_tf zt_fd X (d + 1) zm_76 4 [(0, .ref 61), (1, .int x1), (2, .int x2)] [.int y0] (mH h s) Q := by
  unfold mf_76_4 at hf
  refine mb_76_4 hh  (fun c => ?_) (fun c => ?_)
  · rw [if_pos c] at hf
    exact mr_76_9 hh hf k
  · rw [if_neg c] at hf
    exact mr_76_7 hh hf k
def mf_76_0 (N : Nat) (x1 : Int32) (x2 : Int32) (s : mS) : mO := mo_bi (mf_73 N x1 s) (fun s1 y => mf_76_4 N x1 x2 y s1)
theorem mr_76_0 {X : Nat → Option zz_C} {h : zz_H} (hh : 111 ≤ h.length) {d : Nat} {N : Nat} {Q : Option Value → zz_H → Prop} {x1 : Int32} {x2 : Int32} {s s' : mS} {v : Option Value} (hf : mf_76_0 N x1 x2 s = some (s', v)) (k : Q v (mH h s')) : zz_E zp_P zt_tf zt_fd X (d + 1) zm_76 0 [(0, .ref 61), (1, .int x1), (2, .int x2)] [] (mH h s) Q := by
  unfold mf_76_0 at hf
  obtain ⟨s1, y, e, hf⟩ := mo_bi_ok hf
  exact mb_76_0 (d := d + 0) hh  (mr_73 (d := d + 0) hh e (mr_76_4 hh hf k))
/-- add -/
def mf_76 (N : Nat) (x1 : Int32) (x2 : Int32) (s : mS) : mO := mf_76_0 N x1 x2 s
theorem mr_76 {X : Nat → Option zz_C} {h : zz_H} (hh : 111 ≤ h.length) {d : Nat} {N : Nat} {Q : Option Value → zz_H → Prop} {x1 : Int32} {x2 : Int32} {s s' : mS} {v : Option Value} (hf : mf_76 N x1 x2 s = some (s', v)) (k : Q v (mH h s')) : zz_E zp_P zt_tf zt_fd X (d + 1) zm_76 0 [(0, .ref 61), (1, .int x1), (2, .int x2)] [] (mH h s) Q := by
  unfold mf_76 at hf
  exact zz_E.weak (mr_76_0 hh hf k) rfl ⟨rfl, rfl, rfl, trivial⟩
