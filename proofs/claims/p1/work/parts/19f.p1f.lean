/-! ===== p1: feed on a fresh object ===== -/
abbrev zv_fs12 : List Value := (match zv_h[0]? with
  | some (.inr (_, fs)) => fs
  | _ => [])
abbrev zv_fs13 : List Value := (match zv_h[61]? with
  | some (.inr (_, fs)) => fs
  | _ => [])
theorem zv_e12 : zv_h = zw2 zv_h 1 0 (.inl (2, 320, .inl fun _ => 0)) (.inr (12, zv_fs12.set 1 (.int 0))) := by rfl
theorem zv_e13 (c d : zz_C) : zw2 zv_h 1 0 c d = zw2 (zw2 zv_h 1 0 c d) 64 61 (.inl (2, 1620, .inl fun _ => 0)) (.inr (13, zv_fs13.set 3 (.int 0))) := by rfl
set_option maxRecDepth 100000 in
set_option maxHeartbeats 8000000 in
theorem zv_s0 (xs : Nat → Int32) : zz_E zp_P zt_tf zt_fd (zt_X 6 xs) 1000 zm_law 33 zv_L [.int (nI 0)] zv_h zv_Q := by
  refine zz_E.n 124 rfl rfl rfl ?_
  refine zz_E.n 125 rfl rfl rfl ?_
  refine zz_E.n 126 rfl rfl rfl ?_
  refine zz_E.n 127 rfl rfl rfl ?_
  refine zz_E.n 128 rfl rfl rfl ?_
  refine zz_E.n 129 rfl rfl rfl ?_
  refine zz_E.n 130 rfl rfl rfl ?_
  refine zz_E.n 131 rfl rfl rfl ?_
  refine zz_E.n 132 rfl rfl rfl ?_
  refine zz_E.n 133 rfl rfl rfl ?_
  refine zz_E.n 134 rfl rfl rfl ?_
  refine zz_E.n 135 rfl rfl rfl ?_
  refine zz_E.n 136 rfl rfl rfl ?_
  refine zz_E.n 137 rfl rfl rfl ?_
  refine zz_E.n 138 rfl rfl rfl ?_
  refine zz_E.n 139 rfl rfl rfl ?_
  refine zz_E.n 140 rfl rfl rfl ?_
  refine zz_E.n 141 rfl rfl rfl ?_
  refine zz_E.n 142 rfl rfl rfl ?_
  refine zz_E.n 143 rfl rfl rfl ?_
  refine zz_E.n 144 rfl rfl rfl ?_
  refine zz_E.n 145 rfl rfl rfl ?_
  refine zz_E.n 146 rfl rfl rfl ?_
  refine zz_E.n 147 rfl rfl rfl ?_
  refine zz_E.n 148 rfl rfl rfl ?_
  refine zz_E.n 149 rfl rfl rfl ?_
  refine zz_E.n 150 rfl rfl rfl ?_
  refine zz_E.cl (M' := zm_1) 153 rfl rfl (by decide) rfl rfl ⟨rfl, Nat.le_of_ble_eq_true rfl⟩ rfl ?_
  rw [zv_e12]
  refine zz_E.n 1 rfl rfl rfl ?_
  refine zz_E.n 4 rfl rfl rfl ?_
  refine zz_E.n 6 rfl rfl rfl ?_
  refine zz_E.n 7 rfl rfl rfl ?_
  refine zz_E.n 10 rfl rfl rfl ?_
  refine zz_E.kt 15 rfl (by decide) (by decide) rfl ?_
  refine zz_E.n 16 rfl rfl rfl ?_
  refine zz_E.n 19 rfl rfl rfl ?_
  refine zz_E.n 21 rfl rfl rfl ?_
  refine zz_E.n 22 rfl rfl rfl ?_
  refine zz_E.n 23 rfl rfl rfl ?_
  refine zz_E.n 26 rfl rfl rfl ?_
  refine zz_E.n 27 rfl rfl rfl ?_
  refine zz_E.kt 54 rfl (by decide) (by decide) rfl ?_
  refine zz_E.n 55 rfl rfl rfl ?_
  refine zz_E.n 56 rfl rfl rfl ?_
  refine zz_E.cl (M' := zm_2) 59 rfl rfl (by decide) rfl rfl ⟨rfl, Nat.le_of_ble_eq_true rfl⟩ rfl ?_
  refine zw_Tx (by decide) (Nat.le_of_ble_eq_true rfl) (Nat.le_of_ble_eq_true rfl) (by decide) (by decide) rfl (Nat.le_of_ble_eq_true rfl) (by decide) (by decide) (by decide) (by decide) ?_
  refine zz_E.n 60 rfl rfl rfl ?_
  refine zz_E.n 61 rfl rfl rfl ?_
  refine zz_E.cl (M' := zm_2) 64 rfl rfl (by decide) rfl rfl ⟨rfl, Nat.le_of_ble_eq_true rfl⟩ rfl ?_
  refine zw_Tx (by decide) (Nat.le_of_ble_eq_true rfl) (Nat.le_of_ble_eq_true rfl) (by decide) (by decide) rfl (Nat.le_of_ble_eq_true rfl) (by decide) (by decide) (by decide) (by decide) ?_
  refine zz_E.n 65 rfl rfl rfl ?_
  refine zz_E.n 66 rfl rfl rfl ?_
  refine zz_E.cl (M' := zm_2) 69 rfl rfl (by decide) rfl rfl ⟨rfl, Nat.le_of_ble_eq_true rfl⟩ rfl ?_
  refine zw_Tx (by decide) (Nat.le_of_ble_eq_true rfl) (Nat.le_of_ble_eq_true rfl) (by decide) (by decide) rfl (Nat.le_of_ble_eq_true rfl) (by decide) (by decide) (by decide) (by decide) ?_
  refine zz_E.n 70 rfl rfl rfl ?_
  refine zz_E.n 72 rfl rfl rfl ?_
  refine zz_E.cl (M' := zm_2) 75 rfl rfl (by decide) rfl rfl ⟨rfl, Nat.le_of_ble_eq_true rfl⟩ rfl ?_
  refine zw_Tx (by decide) (Nat.le_of_ble_eq_true rfl) (Nat.le_of_ble_eq_true rfl) (by decide) (by decide) rfl (Nat.le_of_ble_eq_true rfl) (by decide) (by decide) (by decide) (by decide) ?_
  refine zz_E.n 76 rfl rfl rfl ?_
  refine zz_E.n 78 rfl rfl rfl ?_
  refine zz_E.cl (M' := zm_2) 81 rfl rfl (by decide) rfl rfl ⟨rfl, Nat.le_of_ble_eq_true rfl⟩ rfl ?_
  refine zw_Tx (by decide) (Nat.le_of_ble_eq_true rfl) (Nat.le_of_ble_eq_true rfl) (by decide) (by decide) rfl (Nat.le_of_ble_eq_true rfl) (by decide) (by decide) (by decide) (by decide) ?_
  refine zz_E.n 82 rfl rfl rfl ?_
  refine zz_E.n 85 rfl rfl rfl ?_
  refine zz_E.ret rfl rfl rfl ?_
  refine zz_E.n 154 rfl rfl rfl ?_
  refine zz_E.n 155 rfl rfl rfl ?_
  refine zz_E.n 156 rfl rfl rfl ?_
  refine zz_E.n 157 rfl rfl rfl ?_
  refine zz_E.n 158 rfl rfl rfl ?_
  refine zz_E.n 159 rfl rfl rfl ?_
  refine zz_E.n 160 rfl rfl rfl ?_
  refine zz_E.n 161 rfl rfl rfl ?_
  refine zz_E.n 162 rfl rfl rfl ?_
  refine zz_E.n 163 rfl rfl rfl ?_
  refine zz_E.n 164 rfl rfl rfl ?_
  refine zz_E.n 165 rfl rfl rfl ?_
  refine zz_E.n 166 rfl rfl rfl ?_
  refine zz_E.n 167 rfl rfl rfl ?_
  refine zz_E.n 168 rfl rfl rfl ?_
  refine zz_E.n 169 rfl rfl rfl ?_
  refine zz_E.n 170 rfl rfl rfl ?_
  refine zz_E.n 171 rfl rfl rfl ?_
  refine zz_E.n 172 rfl rfl rfl ?_
  refine zz_E.n 173 rfl rfl rfl ?_
  refine zz_E.n 174 rfl rfl rfl ?_
  refine zz_E.n 175 rfl rfl rfl ?_
  refine zz_E.n 176 rfl rfl rfl ?_
  refine zz_E.n 177 rfl rfl rfl ?_
  refine zz_E.n 178 rfl rfl rfl ?_
  refine zz_E.n 179 rfl rfl rfl ?_
  refine zz_E.cl (M' := zm_57) 182 rfl rfl (by decide) rfl rfl ⟨rfl, Nat.le_of_ble_eq_true rfl⟩ rfl ?_
  rw [zv_e13]
  refine zz_E.n 1 rfl rfl rfl ?_
  refine zz_E.n 4 rfl rfl rfl ?_
  refine zz_E.n 7 rfl rfl rfl ?_
  refine zz_E.kt 12 rfl (by decide) (by decide) rfl ?_
  refine zz_E.n 13 rfl rfl rfl ?_
  refine zz_E.n 14 rfl rfl rfl ?_
  refine zz_E.cl (M' := zm_58) 17 rfl rfl (by decide) rfl rfl ⟨rfl, Nat.le_of_ble_eq_true rfl⟩ rfl ?_
  refine zw_Tm (by decide) (Nat.le_of_ble_eq_true rfl) (Nat.le_of_ble_eq_true rfl) (by decide) (by decide) rfl (Nat.le_of_ble_eq_true rfl) (by decide) (by decide) (by decide) (by decide) ?_
  refine zz_E.n 18 rfl rfl rfl ?_
  refine zz_E.n 19 rfl rfl rfl ?_
  refine zz_E.cl (M' := zm_58) 22 rfl rfl (by decide) rfl rfl ⟨rfl, Nat.le_of_ble_eq_true rfl⟩ rfl ?_
  refine zw_Tm (by decide) (Nat.le_of_ble_eq_true rfl) (Nat.le_of_ble_eq_true rfl) (by decide) (by decide) rfl (Nat.le_of_ble_eq_true rfl) (by decide) (by decide) (by decide) (by decide) ?_
  refine zz_E.n 23 rfl rfl rfl ?_
  refine zz_E.n 24 rfl rfl rfl ?_
  refine zz_E.cl (M' := zm_58) 27 rfl rfl (by decide) rfl rfl ⟨rfl, Nat.le_of_ble_eq_true rfl⟩ rfl ?_
  refine zw_Tm (by decide) (Nat.le_of_ble_eq_true rfl) (Nat.le_of_ble_eq_true rfl) (by decide) (by decide) rfl (Nat.le_of_ble_eq_true rfl) (by decide) (by decide) (by decide) (by decide) ?_
  refine zz_E.n 28 rfl rfl rfl ?_
  refine zz_E.n 30 rfl rfl rfl ?_
  refine zz_E.cl (M' := zm_58) 33 rfl rfl (by decide) rfl rfl ⟨rfl, Nat.le_of_ble_eq_true rfl⟩ rfl ?_
  refine zw_Tm (by decide) (Nat.le_of_ble_eq_true rfl) (Nat.le_of_ble_eq_true rfl) (by decide) (by decide) rfl (Nat.le_of_ble_eq_true rfl) (by decide) (by decide) (by decide) (by decide) ?_
  refine zz_E.n 34 rfl rfl rfl ?_
  refine zz_E.n 36 rfl rfl rfl ?_
  refine zz_E.cl (M' := zm_58) 39 rfl rfl (by decide) rfl rfl ⟨rfl, Nat.le_of_ble_eq_true rfl⟩ rfl ?_
  refine zw_Tm (by decide) (Nat.le_of_ble_eq_true rfl) (Nat.le_of_ble_eq_true rfl) (by decide) (by decide) rfl (Nat.le_of_ble_eq_true rfl) (by decide) (by decide) (by decide) (by decide) ?_
  refine zz_E.n 40 rfl rfl rfl ?_
  refine zz_E.n 43 rfl rfl rfl ?_
  refine zz_E.ret rfl rfl rfl ?_
  refine zz_E.kt 652 rfl (by decide) (by decide) rfl ?_
  refine zz_E.n 655 rfl rfl rfl ?_
  refine zz_E.n 18 rfl rfl rfl ?_
  refine zz_E.n 19 rfl rfl rfl ?_
  refine zz_E.n 20 rfl rfl rfl ?_
  refine zz_E.n 21 rfl rfl rfl ?_
  refine zz_E.n 23 rfl rfl rfl ?_
  refine zz_E.n 24 rfl rfl rfl ?_
  refine zz_E.kt 658 rfl (by decide) (by decide) rfl ?_
  refine zz_E.n 659 rfl rfl rfl ?_
  refine zz_E.ret rfl rfl rfl ?_
  exact ⟨rfl, Nat.le_of_ble_eq_true rfl, Nat.le_of_ble_eq_true rfl⟩
