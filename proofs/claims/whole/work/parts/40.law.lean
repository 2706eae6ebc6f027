/-! ===== the law, over both states ===== -/
section LW
variable {X : Nat → Option zz_C} {h : zz_H} {t t' : cS} {s s' : mS} {d N : Nat} {Q : zz_O → zz_H → Prop} {i a1 a2 a3 a4 a5 : Int32}
theorem zz_J.ofE {P : Nat → Option zz_M} {tf : Nat → Nat → FieldType} {fd : Nat → List Value} {d : Nat} {M : zz_M} {pc : Nat} {lv : List (Nat × Value)} {st : List Value} {h : zz_H} {Q1 : Option Value → zz_H → Prop} (hE : zz_E P tf fd X d M pc lv st h Q1) (k : ∀ v h, Q1 v h → Q (.inl v) h) : zz_J P tf fd X d M pc lv st h Q := by
  obtain ⟨n, v, hf, h1, h2⟩ := hE
  exact ⟨n, .inl v, hf, h1, k _ _ h2⟩
theorem kR.big (hR : kR h t s) : 111 ≤ h.length := by
  obtain ⟨own, h1, h2, h3, h4, h5, h6, h7⟩ := hR
  have e := (h4 49 (by decide)).1
  have e1 : (mC s)[49]? = some ((mC s)[49]'(by rw [mC_len]; decide)) := List.getElem?_eq_getElem _
  rw [e1] at e
  have := (List.getElem?_eq_some_iff.mp e).1
  omega
theorem kR.eqM (hR : kR h t s) : mH h s = h := by
  have hb := hR.big
  obtain ⟨own, h1, h2, h3, h4, h5, h6, h7⟩ := hR
  apply List.ext_getElem?
  intro j
  unfold mH
  by_cases c1 : j < 61
  · rw [List.getElem?_append_left (by rw [List.length_take]; omega), List.getElem?_take, if_pos c1]
  · rw [List.getElem?_append_right (by rw [List.length_take]; omega), List.length_take]
    by_cases c2 : j < 111
    · rw [List.getElem?_append_left (by rw [mC_len]; omega)]
      have := (h4 (j - 61) (by omega)).1
      rw [show 61 + (j - 61) = j from by omega] at this
      rw [show j - min 61 h.length = j - 61 from by omega]
      exact this.symm
    · rw [List.getElem?_append_right (by rw [mC_len]; omega), mC_len, List.getElem?_drop]
      congr 1
      omega
theorem kR.toM (hR : kR h t s) : kR (mH h s') t s' := by
  have hb := hR.big
  obtain ⟨own, h1, h2, h3, h4, h5, h6, h7⟩ := hR
  have keep : ∀ x, ¬ (61 ≤ x ∧ x < 111) → (mH h s')[x]? = h[x]? := fun x hx => by
    unfold mH
    by_cases c1 : x < 61
    · rw [List.getElem?_append_left (by rw [List.length_take]; omega), List.getElem?_take, if_pos c1]
    · rw [List.getElem?_append_right (by rw [List.length_take]; omega), List.length_take, List.getElem?_append_right (by rw [mC_len]; omega), mC_len, List.getElem?_drop]
      congr 1
      omega
  have out : ∀ x, (∀ j, own x ≠ 4 * j + 3) → ¬ (61 ≤ x ∧ x < 111) := fun x hx c => by
    have := (h4 (x - 61) (by omega)).2
    rw [show 61 + (x - 61) = x from by omega] at this
    exact hx _ this
  have hmid : ∀ j, j < 50 → (mH h s')[61 + j]? = (mC s')[j]? := fun j hj => by
    unfold mH
    rw [List.getElem?_append_right (by rw [List.length_take]; omega), List.length_take, List.getElem?_append_left (by rw [mC_len]; omega)]
    congr 1
    omega
  refine ⟨own, ?_, ?_, ?_, ?_, ?_, ?_, h7⟩
  · intro k c hk
    obtain ⟨e1, o1⟩ := h1 k c hk
    exact ⟨(keep k (out k (fun j => by omega))).trans e1, o1⟩
  · intro k c hk
    obtain ⟨e1, o1⟩ := h2 k c hk
    exact ⟨(keep _ (out _ (fun j => by omega))).trans e1, o1⟩
  · intro k hk
    obtain ⟨e1, o1⟩ := h3 k hk
    exact ⟨(keep _ (out _ (fun j => by omega))).trans e1, o1⟩
  · intro j hj
    exact ⟨hmid j hj, (h4 j hj).2⟩
  · rw [mH_len hb]
    exact h5
  · rw [← h6]
    have e0 : h = mH h s := by
      have : kR h t s := ⟨own, h1, h2, h3, h4, h5, h6, h7⟩
      exact this.eqM.symm
    conv => rhs; rw [e0]
    unfold mH
    rw [zz_sl_apps, zz_sl_apps, zz_sl_apps, zz_sl_apps]
    rfl
theorem kR.clM (hR : kR h t s) {nn : Int} (hn : nn = 13) : hcl X h 61 nn = true := by
  obtain ⟨own, h1, h2, h3, h4, h5, h6, h7⟩ := hR
  have e := (h4 0 (by decide)).1
  have e1 : h[61]? = some (.inr (13, mF s)) := e
  subst hn
  unfold hcl zz_rd
  rw [if_pos (by decide), e1]
  dsimp only
  exact decide_eq_true ⟨by decide, Or.inl rfl⟩
theorem lg_cmp_self (v : Int64) : lg_cmp v v = 0 := by
  unfold lg_cmp
  simp
theorem lw_0 {v : Int32} (hR : kR h t s) (g1 : hai X [] zz_out (i + 1) = some a1) (g2 : hai X [] zz_out (i + 2) = some a2) (g3 : hai X [] zz_out (i + 3) = some a3) (g4 : hai X [] zz_out (i + 4) = some a4) (g5 : hai X [] zz_out (i + 5) = some a5) (hc : cf_1 N X a1 a2 a3 a4 a5 t = some (t', .inl (some (.int v)))) (hm : mf_57 N a1 a2 a3 a4 a5 s = some (s', some (.int v))) (kk : ∀ {h : zz_H}, kR h t' s' → zz_J zp_P zt_tf zt_fd X (d + 400) zm_law 652 [(0, .ref zz_out), (1, .ref 0), (2, .ref 61), (3, .int i)] [] h Q) : zz_J zp_P zt_tf zt_fd X (d + 400) zm_law 124 [(0, .ref zz_out), (1, .ref 0), (2, .ref 61), (3, .int i)] [] h Q := by
  refine zz_J.n 125 rfl rfl rfl ?_
  refine zz_J.n 126 rfl rfl rfl ?_
  refine zz_J.n 127 rfl rfl rfl ?_
  refine zz_J.c 128 (.int 1) rfl rfl rfl rfl ?_
  refine zz_J.n 129 rfl rfl rfl ?_
  refine zz_J.ai 130 rfl ((hx_ai (Nat.lt_irrefl _)).trans g1) rfl ?_
  refine zz_J.n 131 rfl rfl rfl ?_
  refine zz_J.n 132 rfl rfl rfl ?_
  refine zz_J.c 133 (.int 2) rfl rfl rfl rfl ?_
  refine zz_J.n 134 rfl rfl rfl ?_
  refine zz_J.ai 135 rfl ((hx_ai (Nat.lt_irrefl _)).trans g2) rfl ?_
  refine zz_J.n 136 rfl rfl rfl ?_
  refine zz_J.n 137 rfl rfl rfl ?_
  refine zz_J.c 138 (.int 3) rfl rfl rfl rfl ?_
  refine zz_J.n 139 rfl rfl rfl ?_
  refine zz_J.ai 140 rfl ((hx_ai (Nat.lt_irrefl _)).trans g3) rfl ?_
  refine zz_J.n 141 rfl rfl rfl ?_
  refine zz_J.n 142 rfl rfl rfl ?_
  refine zz_J.c 143 (.int 4) rfl rfl rfl rfl ?_
  refine zz_J.n 144 rfl rfl rfl ?_
  refine zz_J.ai 145 rfl ((hx_ai (Nat.lt_irrefl _)).trans g4) rfl ?_
  refine zz_J.n 146 rfl rfl rfl ?_
  refine zz_J.n 147 rfl rfl rfl ?_
  refine zz_J.c 148 (.int 5) rfl rfl rfl rfl ?_
  refine zz_J.n 149 rfl rfl rfl ?_
  refine zz_J.ai 150 rfl ((hx_ai (Nat.lt_irrefl _)).trans g5) rfl ?_
  refine zz_J.cv 153 (as := []) rfl rfl (hR.clO ko_0 (by decide) (by decide)) (by decide) (Nat.le_of_ble_eq_true rfl) (Nat.le_of_ble_eq_true rfl) rfl (Nat.le_of_ble_eq_true rfl) rfl ?_
  refine cr_1 (d := d + 399) (by omega) hR hc (fun h hR => ?_)
  show zz_J zp_P zt_tf zt_fd X (d + 400) zm_law 153 [(0, .ref zz_out), (1, .ref 0), (2, .ref 61), (3, .int i)] [.int v] h Q
  refine zz_J.n 154 rfl rfl rfl ?_
  refine zz_J.n 155 rfl rfl rfl ?_
  refine zz_J.n 156 rfl rfl rfl ?_
  refine zz_J.c 157 (.int 1) rfl rfl rfl rfl ?_
  refine zz_J.n 158 rfl rfl rfl ?_
  refine zz_J.ai 159 rfl ((hx_ai (Nat.lt_irrefl _)).trans g1) rfl ?_
  refine zz_J.n 160 rfl rfl rfl ?_
  refine zz_J.n 161 rfl rfl rfl ?_
  refine zz_J.c 162 (.int 2) rfl rfl rfl rfl ?_
  refine zz_J.n 163 rfl rfl rfl ?_
  refine zz_J.ai 164 rfl ((hx_ai (Nat.lt_irrefl _)).trans g2) rfl ?_
  refine zz_J.n 165 rfl rfl rfl ?_
  refine zz_J.n 166 rfl rfl rfl ?_
  refine zz_J.c 167 (.int 3) rfl rfl rfl rfl ?_
  refine zz_J.n 168 rfl rfl rfl ?_
  refine zz_J.ai 169 rfl ((hx_ai (Nat.lt_irrefl _)).trans g3) rfl ?_
  refine zz_J.n 170 rfl rfl rfl ?_
  refine zz_J.n 171 rfl rfl rfl ?_
  refine zz_J.c 172 (.int 4) rfl rfl rfl rfl ?_
  refine zz_J.n 173 rfl rfl rfl ?_
  refine zz_J.ai 174 rfl ((hx_ai (Nat.lt_irrefl _)).trans g4) rfl ?_
  refine zz_J.n 175 rfl rfl rfl ?_
  refine zz_J.n 176 rfl rfl rfl ?_
  refine zz_J.c 177 (.int 5) rfl rfl rfl rfl ?_
  refine zz_J.n 178 rfl rfl rfl ?_
  refine zz_J.ai 179 rfl ((hx_ai (Nat.lt_irrefl _)).trans g5) rfl ?_
  refine zz_J.cv 182 (as := [.int v]) rfl rfl (hR.clM rfl) (by decide) (Nat.le_of_ble_eq_true rfl) (Nat.le_of_ble_eq_true rfl) rfl (Nat.le_of_ble_eq_true rfl) rfl ?_
  have hE := mr_57 (X := X) (h := h) hR.big (d := d + 398) (Q := fun w h1 => w = some (.int v) ∧ h1 = mH h s') hm ⟨rfl, rfl⟩
  rw [hR.eqM] at hE
  refine zz_J.ofE hE ?_
  rintro w h1 ⟨rfl, rfl⟩
  have hR := hR.toM (s' := s')
  generalize mH h s' = h at hR ⊢
  show zz_J zp_P zt_tf zt_fd X (d + 400) zm_law 182 [(0, .ref zz_out), (1, .ref 0), (2, .ref 61), (3, .int i)] [.int v, .int v] h Q
  exact zz_J.b2 652 185 (A := v = v) rfl rfl (by decide) rfl rfl (fun _ => kk hR) (fun c => absurd rfl c)
theorem lw_1 {v : Int32} (hR : kR h t s) (g1 : hai X [] zz_out (i + 1) = some a1) (hc : cf_3 N X a1 t = some (t', .inl (some (.int v)))) (hm : mf_59 N a1 s = some (s', some (.int v))) (kk : ∀ {h : zz_H}, kR h t' s' → zz_J zp_P zt_tf zt_fd X (d + 400) zm_law 652 [(0, .ref zz_out), (1, .ref 0), (2, .ref 61), (3, .int i)] [] h Q) : zz_J zp_P zt_tf zt_fd X (d + 400) zm_law 187 [(0, .ref zz_out), (1, .ref 0), (2, .ref 61), (3, .int i)] [] h Q := by
  refine zz_J.n 188 rfl rfl rfl ?_
  refine zz_J.n 189 rfl rfl rfl ?_
  refine zz_J.n 190 rfl rfl rfl ?_
  refine zz_J.c 191 (.int 1) rfl rfl rfl rfl ?_
  refine zz_J.n 192 rfl rfl rfl ?_
  refine zz_J.ai 193 rfl ((hx_ai (Nat.lt_irrefl _)).trans g1) rfl ?_
  refine zz_J.cv 196 (as := []) rfl rfl (hR.clO ko_0 (by decide) (by decide)) (by decide) (Nat.le_of_ble_eq_true rfl) (Nat.le_of_ble_eq_true rfl) rfl (Nat.le_of_ble_eq_true rfl) rfl ?_
  refine cr_3 (d := d + 399) (by omega) hR hc (fun h hR => ?_)
  show zz_J zp_P zt_tf zt_fd X (d + 400) zm_law 196 [(0, .ref zz_out), (1, .ref 0), (2, .ref 61), (3, .int i)] [.int v] h Q
  refine zz_J.n 197 rfl rfl rfl ?_
  refine zz_J.n 198 rfl rfl rfl ?_
  refine zz_J.n 199 rfl rfl rfl ?_
  refine zz_J.c 200 (.int 1) rfl rfl rfl rfl ?_
  refine zz_J.n 201 rfl rfl rfl ?_
  refine zz_J.ai 202 rfl ((hx_ai (Nat.lt_irrefl _)).trans g1) rfl ?_
  refine zz_J.cv 205 (as := [.int v]) rfl rfl (hR.clM rfl) (by decide) (Nat.le_of_ble_eq_true rfl) (Nat.le_of_ble_eq_true rfl) rfl (Nat.le_of_ble_eq_true rfl) rfl ?_
  have hE := mr_59 (X := X) (h := h) hR.big (d := d + 387) (Q := fun w h1 => w = some (.int v) ∧ h1 = mH h s') hm ⟨rfl, rfl⟩
  rw [hR.eqM] at hE
  refine zz_J.ofE hE ?_
  rintro w h1 ⟨rfl, rfl⟩
  have hR := hR.toM (s' := s')
  generalize mH h s' = h at hR ⊢
  show zz_J zp_P zt_tf zt_fd X (d + 400) zm_law 205 [(0, .ref zz_out), (1, .ref 0), (2, .ref 61), (3, .int i)] [.int v, .int v] h Q
  exact zz_J.b2 652 208 (A := v = v) rfl rfl (by decide) rfl rfl (fun _ => kk hR) (fun c => absurd rfl c)
theorem lw_2 {v : Int32} (hR : kR h t s) (g1 : hai X [] zz_out (i + 1) = some a1) (hc : cf_4 N X a1 t = some (t', .inl (some (.int v)))) (hm : mf_65 N a1 s = some (s', some (.int v))) (kk : ∀ {h : zz_H}, kR h t' s' → zz_J zp_P zt_tf zt_fd X (d + 400) zm_law 652 [(0, .ref zz_out), (1, .ref 0), (2, .ref 61), (3, .int i)] [] h Q) : zz_J zp_P zt_tf zt_fd X (d + 400) zm_law 210 [(0, .ref zz_out), (1, .ref 0), (2, .ref 61), (3, .int i)] [] h Q := by
  refine zz_J.n 211 rfl rfl rfl ?_
  refine zz_J.n 212 rfl rfl rfl ?_
  refine zz_J.n 213 rfl rfl rfl ?_
  refine zz_J.c 214 (.int 1) rfl rfl rfl rfl ?_
  refine zz_J.n 215 rfl rfl rfl ?_
  refine zz_J.ai 216 rfl ((hx_ai (Nat.lt_irrefl _)).trans g1) rfl ?_
  refine zz_J.cv 219 (as := []) rfl rfl (hR.clO ko_0 (by decide) (by decide)) (by decide) (Nat.le_of_ble_eq_true rfl) (Nat.le_of_ble_eq_true rfl) rfl (Nat.le_of_ble_eq_true rfl) rfl ?_
  refine cr_4 (d := d + 399) (by omega) hR hc (fun h hR => ?_)
  show zz_J zp_P zt_tf zt_fd X (d + 400) zm_law 219 [(0, .ref zz_out), (1, .ref 0), (2, .ref 61), (3, .int i)] [.int v] h Q
  refine zz_J.n 220 rfl rfl rfl ?_
  refine zz_J.n 221 rfl rfl rfl ?_
  refine zz_J.n 222 rfl rfl rfl ?_
  refine zz_J.c 223 (.int 1) rfl rfl rfl rfl ?_
  refine zz_J.n 224 rfl rfl rfl ?_
  refine zz_J.ai 225 rfl ((hx_ai (Nat.lt_irrefl _)).trans g1) rfl ?_
  refine zz_J.cv 228 (as := [.int v]) rfl rfl (hR.clM rfl) (by decide) (Nat.le_of_ble_eq_true rfl) (Nat.le_of_ble_eq_true rfl) rfl (Nat.le_of_ble_eq_true rfl) rfl ?_
  have hE := mr_65 (X := X) (h := h) hR.big (d := d + 399) (Q := fun w h1 => w = some (.int v) ∧ h1 = mH h s') hm ⟨rfl, rfl⟩
  rw [hR.eqM] at hE
  refine zz_J.ofE hE ?_
  rintro w h1 ⟨rfl, rfl⟩
  have hR := hR.toM (s' := s')
  generalize mH h s' = h at hR ⊢
  show zz_J zp_P zt_tf zt_fd X (d + 400) zm_law 228 [(0, .ref zz_out), (1, .ref 0), (2, .ref 61), (3, .int i)] [.int v, .int v] h Q
  exact zz_J.b2 652 231 (A := v = v) rfl rfl (by decide) rfl rfl (fun _ => kk hR) (fun c => absurd rfl c)
theorem lw_3 {v : Int32} (hR : kR h t s) (g1 : hai X [] zz_out (i + 1) = some a1) (g2 : hai X [] zz_out (i + 2) = some a2) (hc : cf_5 N X a1 a2 t = some (t', .inl (some (.int v)))) (hm : mf_67 N a1 a2 s = some (s', some (.int v))) (kk : ∀ {h : zz_H}, kR h t' s' → zz_J zp_P zt_tf zt_fd X (d + 400) zm_law 652 [(0, .ref zz_out), (1, .ref 0), (2, .ref 61), (3, .int i)] [] h Q) : zz_J zp_P zt_tf zt_fd X (d + 400) zm_law 233 [(0, .ref zz_out), (1, .ref 0), (2, .ref 61), (3, .int i)] [] h Q := by
  refine zz_J.n 234 rfl rfl rfl ?_
  refine zz_J.n 235 rfl rfl rfl ?_
  refine zz_J.n 236 rfl rfl rfl ?_
  refine zz_J.c 237 (.int 1) rfl rfl rfl rfl ?_
  refine zz_J.n 238 rfl rfl rfl ?_
  refine zz_J.ai 239 rfl ((hx_ai (Nat.lt_irrefl _)).trans g1) rfl ?_
  refine zz_J.n 240 rfl rfl rfl ?_
  refine zz_J.n 241 rfl rfl rfl ?_
  refine zz_J.c 242 (.int 2) rfl rfl rfl rfl ?_
  refine zz_J.n 243 rfl rfl rfl ?_
  refine zz_J.ai 244 rfl ((hx_ai (Nat.lt_irrefl _)).trans g2) rfl ?_
  refine zz_J.cv 247 (as := []) rfl rfl (hR.clO ko_0 (by decide) (by decide)) (by decide) (Nat.le_of_ble_eq_true rfl) (Nat.le_of_ble_eq_true rfl) rfl (Nat.le_of_ble_eq_true rfl) rfl ?_
  refine cr_5 (d := d + 399) (by omega) hR hc (fun h hR => ?_)
  show zz_J zp_P zt_tf zt_fd X (d + 400) zm_law 247 [(0, .ref zz_out), (1, .ref 0), (2, .ref 61), (3, .int i)] [.int v] h Q
  refine zz_J.n 248 rfl rfl rfl ?_
  refine zz_J.n 249 rfl rfl rfl ?_
  refine zz_J.n 250 rfl rfl rfl ?_
  refine zz_J.c 251 (.int 1) rfl rfl rfl rfl ?_
  refine zz_J.n 252 rfl rfl rfl ?_
  refine zz_J.ai 253 rfl ((hx_ai (Nat.lt_irrefl _)).trans g1) rfl ?_
  refine zz_J.n 254 rfl rfl rfl ?_
  refine zz_J.n 255 rfl rfl rfl ?_
  refine zz_J.c 256 (.int 2) rfl rfl rfl rfl ?_
  refine zz_J.n 257 rfl rfl rfl ?_
  refine zz_J.ai 258 rfl ((hx_ai (Nat.lt_irrefl _)).trans g2) rfl ?_
  refine zz_J.cv 261 (as := [.int v]) rfl rfl (hR.clM rfl) (by decide) (Nat.le_of_ble_eq_true rfl) (Nat.le_of_ble_eq_true rfl) rfl (Nat.le_of_ble_eq_true rfl) rfl ?_
  have hE := mr_67 (X := X) (h := h) hR.big (d := d + 399) (Q := fun w h1 => w = some (.int v) ∧ h1 = mH h s') hm ⟨rfl, rfl⟩
  rw [hR.eqM] at hE
  refine zz_J.ofE hE ?_
  rintro w h1 ⟨rfl, rfl⟩
  have hR := hR.toM (s' := s')
  generalize mH h s' = h at hR ⊢
  show zz_J zp_P zt_tf zt_fd X (d + 400) zm_law 261 [(0, .ref zz_out), (1, .ref 0), (2, .ref 61), (3, .int i)] [.int v, .int v] h Q
  exact zz_J.b2 652 264 (A := v = v) rfl rfl (by decide) rfl rfl (fun _ => kk hR) (fun c => absurd rfl c)
theorem lw_4 {v : Int32} (hR : kR h t s) (g1 : hai X [] zz_out (i + 1) = some a1) (g2 : hai X [] zz_out (i + 2) = some a2) (g3 : hai X [] zz_out (i + 3) = some a3) (hc : cf_6 N X a1 a2 a3 t = some (t', .inl (some (.int v)))) (hm : mf_68 N a1 a2 a3 s = some (s', some (.int v))) (kk : ∀ {h : zz_H}, kR h t' s' → zz_J zp_P zt_tf zt_fd X (d + 400) zm_law 652 [(0, .ref zz_out), (1, .ref 0), (2, .ref 61), (3, .int i)] [] h Q) : zz_J zp_P zt_tf zt_fd X (d + 400) zm_law 266 [(0, .ref zz_out), (1, .ref 0), (2, .ref 61), (3, .int i)] [] h Q := by
  refine zz_J.n 267 rfl rfl rfl ?_
  refine zz_J.n 268 rfl rfl rfl ?_
  refine zz_J.n 269 rfl rfl rfl ?_
  refine zz_J.c 270 (.int 1) rfl rfl rfl rfl ?_
  refine zz_J.n 271 rfl rfl rfl ?_
  refine zz_J.ai 272 rfl ((hx_ai (Nat.lt_irrefl _)).trans g1) rfl ?_
  refine zz_J.n 273 rfl rfl rfl ?_
  refine zz_J.n 274 rfl rfl rfl ?_
  refine zz_J.c 275 (.int 2) rfl rfl rfl rfl ?_
  refine zz_J.n 276 rfl rfl rfl ?_
  refine zz_J.ai 277 rfl ((hx_ai (Nat.lt_irrefl _)).trans g2) rfl ?_
  refine zz_J.n 278 rfl rfl rfl ?_
  refine zz_J.n 279 rfl rfl rfl ?_
  refine zz_J.c 280 (.int 3) rfl rfl rfl rfl ?_
  refine zz_J.n 281 rfl rfl rfl ?_
  refine zz_J.ai 282 rfl ((hx_ai (Nat.lt_irrefl _)).trans g3) rfl ?_
  refine zz_J.cv 285 (as := []) rfl rfl (hR.clO ko_0 (by decide) (by decide)) (by decide) (Nat.le_of_ble_eq_true rfl) (Nat.le_of_ble_eq_true rfl) rfl (Nat.le_of_ble_eq_true rfl) rfl ?_
  refine cr_6 (d := d + 399) (by omega) hR hc (fun h hR => ?_)
  show zz_J zp_P zt_tf zt_fd X (d + 400) zm_law 285 [(0, .ref zz_out), (1, .ref 0), (2, .ref 61), (3, .int i)] [.int v] h Q
  refine zz_J.n 286 rfl rfl rfl ?_
  refine zz_J.n 287 rfl rfl rfl ?_
  refine zz_J.n 288 rfl rfl rfl ?_
  refine zz_J.c 289 (.int 1) rfl rfl rfl rfl ?_
  refine zz_J.n 290 rfl rfl rfl ?_
  refine zz_J.ai 291 rfl ((hx_ai (Nat.lt_irrefl _)).trans g1) rfl ?_
  refine zz_J.n 292 rfl rfl rfl ?_
  refine zz_J.n 293 rfl rfl rfl ?_
  refine zz_J.c 294 (.int 2) rfl rfl rfl rfl ?_
  refine zz_J.n 295 rfl rfl rfl ?_
  refine zz_J.ai 296 rfl ((hx_ai (Nat.lt_irrefl _)).trans g2) rfl ?_
  refine zz_J.n 297 rfl rfl rfl ?_
  refine zz_J.n 298 rfl rfl rfl ?_
  refine zz_J.c 299 (.int 3) rfl rfl rfl rfl ?_
  refine zz_J.n 300 rfl rfl rfl ?_
  refine zz_J.ai 301 rfl ((hx_ai (Nat.lt_irrefl _)).trans g3) rfl ?_
  refine zz_J.cv 304 (as := [.int v]) rfl rfl (hR.clM rfl) (by decide) (Nat.le_of_ble_eq_true rfl) (Nat.le_of_ble_eq_true rfl) rfl (Nat.le_of_ble_eq_true rfl) rfl ?_
  have hE := mr_68 (X := X) (h := h) hR.big (d := d + 390) (Q := fun w h1 => w = some (.int v) ∧ h1 = mH h s') hm ⟨rfl, rfl⟩
  rw [hR.eqM] at hE
  refine zz_J.ofE hE ?_
  rintro w h1 ⟨rfl, rfl⟩
  have hR := hR.toM (s' := s')
  generalize mH h s' = h at hR ⊢
  show zz_J zp_P zt_tf zt_fd X (d + 400) zm_law 304 [(0, .ref zz_out), (1, .ref 0), (2, .ref 61), (3, .int i)] [.int v, .int v] h Q
  exact zz_J.b2 652 307 (A := v = v) rfl rfl (by decide) rfl rfl (fun _ => kk hR) (fun c => absurd rfl c)
theorem lw_5 {v : Int32} (hR : kR h t s) (g1 : hai X [] zz_out (i + 1) = some a1) (hc : cf_7 N X a1 t = some (t', .inl (some (.int v)))) (hm : mf_69 N a1 s = some (s', some (.int v))) (kk : ∀ {h : zz_H}, kR h t' s' → zz_J zp_P zt_tf zt_fd X (d + 400) zm_law 652 [(0, .ref zz_out), (1, .ref 0), (2, .ref 61), (3, .int i)] [] h Q) : zz_J zp_P zt_tf zt_fd X (d + 400) zm_law 309 [(0, .ref zz_out), (1, .ref 0), (2, .ref 61), (3, .int i)] [] h Q := by
  refine zz_J.n 310 rfl rfl rfl ?_
  refine zz_J.n 311 rfl rfl rfl ?_
  refine zz_J.n 312 rfl rfl rfl ?_
  refine zz_J.c 313 (.int 1) rfl rfl rfl rfl ?_
  refine zz_J.n 314 rfl rfl rfl ?_
  refine zz_J.ai 315 rfl ((hx_ai (Nat.lt_irrefl _)).trans g1) rfl ?_
  refine zz_J.cv 318 (as := []) rfl rfl (hR.clO ko_0 (by decide) (by decide)) (by decide) (Nat.le_of_ble_eq_true rfl) (Nat.le_of_ble_eq_true rfl) rfl (Nat.le_of_ble_eq_true rfl) rfl ?_
  refine cr_7 (d := d + 399) (by omega) hR hc (fun h hR => ?_)
  show zz_J zp_P zt_tf zt_fd X (d + 400) zm_law 318 [(0, .ref zz_out), (1, .ref 0), (2, .ref 61), (3, .int i)] [.int v] h Q
  refine zz_J.n 319 rfl rfl rfl ?_
  refine zz_J.n 320 rfl rfl rfl ?_
  refine zz_J.n 321 rfl rfl rfl ?_
  refine zz_J.c 322 (.int 1) rfl rfl rfl rfl ?_
  refine zz_J.n 323 rfl rfl rfl ?_
  refine zz_J.ai 324 rfl ((hx_ai (Nat.lt_irrefl _)).trans g1) rfl ?_
  refine zz_J.cv 327 (as := [.int v]) rfl rfl (hR.clM rfl) (by decide) (Nat.le_of_ble_eq_true rfl) (Nat.le_of_ble_eq_true rfl) rfl (Nat.le_of_ble_eq_true rfl) rfl ?_
  have hE := mr_69 (X := X) (h := h) hR.big (d := d + 399) (Q := fun w h1 => w = some (.int v) ∧ h1 = mH h s') hm ⟨rfl, rfl⟩
  rw [hR.eqM] at hE
  refine zz_J.ofE hE ?_
  rintro w h1 ⟨rfl, rfl⟩
  have hR := hR.toM (s' := s')
  generalize mH h s' = h at hR ⊢
  show zz_J zp_P zt_tf zt_fd X (d + 400) zm_law 327 [(0, .ref zz_out), (1, .ref 0), (2, .ref 61), (3, .int i)] [.int v, .int v] h Q
  exact zz_J.b2 652 330 (A := v = v) rfl rfl (by decide) rfl rfl (fun _ => kk hR) (fun c => absurd rfl c)
theorem lw_6 {v : Int32} (hR : kR h t s) (g1 : hai X [] zz_out (i + 1) = some a1) (hc : cf_8 N X a1 t = some (t', .inl (some (.int v)))) (hm : mf_70 N a1 s = some (s', some (.int v))) (kk : ∀ {h : zz_H}, kR h t' s' → zz_J zp_P zt_tf zt_fd X (d + 400) zm_law 652 [(0, .ref zz_out), (1, .ref 0), (2, .ref 61), (3, .int i)] [] h Q) : zz_J zp_P zt_tf zt_fd X (d + 400) zm_law 332 [(0, .ref zz_out), (1, .ref 0), (2, .ref 61), (3, .int i)] [] h Q := by
  refine zz_J.n 333 rfl rfl rfl ?_
  refine zz_J.n 334 rfl rfl rfl ?_
  refine zz_J.n 335 rfl rfl rfl ?_
  refine zz_J.c 336 (.int 1) rfl rfl rfl rfl ?_
  refine zz_J.n 337 rfl rfl rfl ?_
  refine zz_J.ai 338 rfl ((hx_ai (Nat.lt_irrefl _)).trans g1) rfl ?_
  refine zz_J.cv 341 (as := []) rfl rfl (hR.clO ko_0 (by decide) (by decide)) (by decide) (Nat.le_of_ble_eq_true rfl) (Nat.le_of_ble_eq_true rfl) rfl (Nat.le_of_ble_eq_true rfl) rfl ?_
  refine cr_8 (d := d + 399) (by omega) hR hc (fun h hR => ?_)
  show zz_J zp_P zt_tf zt_fd X (d + 400) zm_law 341 [(0, .ref zz_out), (1, .ref 0), (2, .ref 61), (3, .int i)] [.int v] h Q
  refine zz_J.n 342 rfl rfl rfl ?_
  refine zz_J.n 343 rfl rfl rfl ?_
  refine zz_J.n 344 rfl rfl rfl ?_
  refine zz_J.c 345 (.int 1) rfl rfl rfl rfl ?_
  refine zz_J.n 346 rfl rfl rfl ?_
  refine zz_J.ai 347 rfl ((hx_ai (Nat.lt_irrefl _)).trans g1) rfl ?_
  refine zz_J.cv 350 (as := [.int v]) rfl rfl (hR.clM rfl) (by decide) (Nat.le_of_ble_eq_true rfl) (Nat.le_of_ble_eq_true rfl) rfl (Nat.le_of_ble_eq_true rfl) rfl ?_
  have hE := mr_70 (X := X) (h := h) hR.big (d := d + 399) (Q := fun w h1 => w = some (.int v) ∧ h1 = mH h s') hm ⟨rfl, rfl⟩
  rw [hR.eqM] at hE
  refine zz_J.ofE hE ?_
  rintro w h1 ⟨rfl, rfl⟩
  have hR := hR.toM (s' := s')
  generalize mH h s' = h at hR ⊢
  show zz_J zp_P zt_tf zt_fd X (d + 400) zm_law 350 [(0, .ref zz_out), (1, .ref 0), (2, .ref 61), (3, .int i)] [.int v, .int v] h Q
  exact zz_J.b2 652 353 (A := v = v) rfl rfl (by decide) rfl rfl (fun _ => kk hR) (fun c => absurd rfl c)
theorem lw_7 {v : Int32} (hR : kR h t s)  (hc : cf_9 N X  t = some (t', .inl (some (.int v)))) (hm : mf_71 N  s = some (s', some (.int v))) (kk : ∀ {h : zz_H}, kR h t' s' → zz_J zp_P zt_tf zt_fd X (d + 400) zm_law 652 [(0, .ref zz_out), (1, .ref 0), (2, .ref 61), (3, .int i)] [] h Q) : zz_J zp_P zt_tf zt_fd X (d + 400) zm_law 355 [(0, .ref zz_out), (1, .ref 0), (2, .ref 61), (3, .int i)] [] h Q := by
  refine zz_J.n 356 rfl rfl rfl ?_
  refine zz_J.cv 359 (as := []) rfl rfl (hR.clO ko_0 (by decide) (by decide)) (by decide) (Nat.le_of_ble_eq_true rfl) (Nat.le_of_ble_eq_true rfl) rfl (Nat.le_of_ble_eq_true rfl) rfl ?_
  refine cr_9 (d := d + 399) (by omega) hR hc (fun h hR => ?_)
  show zz_J zp_P zt_tf zt_fd X (d + 400) zm_law 359 [(0, .ref zz_out), (1, .ref 0), (2, .ref 61), (3, .int i)] [.int v] h Q
  refine zz_J.n 360 rfl rfl rfl ?_
  refine zz_J.cv 363 (as := [.int v]) rfl rfl (hR.clM rfl) (by decide) (Nat.le_of_ble_eq_true rfl) (Nat.le_of_ble_eq_true rfl) rfl (Nat.le_of_ble_eq_true rfl) rfl ?_
  have hE := mr_71 (X := X) (h := h) hR.big (d := d + 399) (Q := fun w h1 => w = some (.int v) ∧ h1 = mH h s') hm ⟨rfl, rfl⟩
  rw [hR.eqM] at hE
  refine zz_J.ofE hE ?_
  rintro w h1 ⟨rfl, rfl⟩
  have hR := hR.toM (s' := s')
  generalize mH h s' = h at hR ⊢
  show zz_J zp_P zt_tf zt_fd X (d + 400) zm_law 363 [(0, .ref zz_out), (1, .ref 0), (2, .ref 61), (3, .int i)] [.int v, .int v] h Q
  exact zz_J.b2 652 366 (A := v = v) rfl rfl (by decide) rfl rfl (fun _ => kk hR) (fun c => absurd rfl c)
theorem lw_8 {v : Int32} (hR : kR h t s) (g1 : hai X [] zz_out (i + 1) = some a1) (hc : cf_10 N X a1 t = some (t', .inl (some (.int v)))) (hm : mf_72 N a1 s = some (s', some (.int v))) (kk : ∀ {h : zz_H}, kR h t' s' → zz_J zp_P zt_tf zt_fd X (d + 400) zm_law 652 [(0, .ref zz_out), (1, .ref 0), (2, .ref 61), (3, .int i)] [] h Q) : zz_J zp_P zt_tf zt_fd X (d + 400) zm_law 368 [(0, .ref zz_out), (1, .ref 0), (2, .ref 61), (3, .int i)] [] h Q := by
  refine zz_J.n 369 rfl rfl rfl ?_
  refine zz_J.n 370 rfl rfl rfl ?_
  refine zz_J.n 371 rfl rfl rfl ?_
  refine zz_J.c 372 (.int 1) rfl rfl rfl rfl ?_
  refine zz_J.n 373 rfl rfl rfl ?_
  refine zz_J.ai 374 rfl ((hx_ai (Nat.lt_irrefl _)).trans g1) rfl ?_
  refine zz_J.cv 377 (as := []) rfl rfl (hR.clO ko_0 (by decide) (by decide)) (by decide) (Nat.le_of_ble_eq_true rfl) (Nat.le_of_ble_eq_true rfl) rfl (Nat.le_of_ble_eq_true rfl) rfl ?_
  refine cr_10 (d := d + 399) (by omega) hR hc (fun h hR => ?_)
  show zz_J zp_P zt_tf zt_fd X (d + 400) zm_law 377 [(0, .ref zz_out), (1, .ref 0), (2, .ref 61), (3, .int i)] [.int v] h Q
  refine zz_J.n 378 rfl rfl rfl ?_
  refine zz_J.n 379 rfl rfl rfl ?_
  refine zz_J.n 380 rfl rfl rfl ?_
  refine zz_J.c 381 (.int 1) rfl rfl rfl rfl ?_
  refine zz_J.n 382 rfl rfl rfl ?_
  refine zz_J.ai 383 rfl ((hx_ai (Nat.lt_irrefl _)).trans g1) rfl ?_
  refine zz_J.cv 386 (as := [.int v]) rfl rfl (hR.clM rfl) (by decide) (Nat.le_of_ble_eq_true rfl) (Nat.le_of_ble_eq_true rfl) rfl (Nat.le_of_ble_eq_true rfl) rfl ?_
  have hE := mr_72 (X := X) (h := h) hR.big (d := d + 394) (Q := fun w h1 => w = some (.int v) ∧ h1 = mH h s') hm ⟨rfl, rfl⟩
  rw [hR.eqM] at hE
  refine zz_J.ofE hE ?_
  rintro w h1 ⟨rfl, rfl⟩
  have hR := hR.toM (s' := s')
  generalize mH h s' = h at hR ⊢
  show zz_J zp_P zt_tf zt_fd X (d + 400) zm_law 386 [(0, .ref zz_out), (1, .ref 0), (2, .ref 61), (3, .int i)] [.int v, .int v] h Q
  exact zz_J.b2 652 389 (A := v = v) rfl rfl (by decide) rfl rfl (fun _ => kk hR) (fun c => absurd rfl c)
theorem lw_9 {v : Int32} (hR : kR h t s) (g1 : hai X [] zz_out (i + 1) = some a1) (g2 : hai X [] zz_out (i + 2) = some a2) (hc : cf_11 N X a1 a2 t = some (t', .inl (some (.int v)))) (hm : mf_74 N a1 a2 s = some (s', some (.int v))) (kk : ∀ {h : zz_H}, kR h t' s' → zz_J zp_P zt_tf zt_fd X (d + 400) zm_law 652 [(0, .ref zz_out), (1, .ref 0), (2, .ref 61), (3, .int i)] [] h Q) : zz_J zp_P zt_tf zt_fd X (d + 400) zm_law 391 [(0, .ref zz_out), (1, .ref 0), (2, .ref 61), (3, .int i)] [] h Q := by
  refine zz_J.n 392 rfl rfl rfl ?_
  refine zz_J.n 393 rfl rfl rfl ?_
  refine zz_J.n 394 rfl rfl rfl ?_
  refine zz_J.c 395 (.int 1) rfl rfl rfl rfl ?_
  refine zz_J.n 396 rfl rfl rfl ?_
  refine zz_J.ai 397 rfl ((hx_ai (Nat.lt_irrefl _)).trans g1) rfl ?_
  refine zz_J.n 398 rfl rfl rfl ?_
  refine zz_J.n 399 rfl rfl rfl ?_
  refine zz_J.c 400 (.int 2) rfl rfl rfl rfl ?_
  refine zz_J.n 401 rfl rfl rfl ?_
  refine zz_J.ai 402 rfl ((hx_ai (Nat.lt_irrefl _)).trans g2) rfl ?_
  refine zz_J.cv 405 (as := []) rfl rfl (hR.clO ko_0 (by decide) (by decide)) (by decide) (Nat.le_of_ble_eq_true rfl) (Nat.le_of_ble_eq_true rfl) rfl (Nat.le_of_ble_eq_true rfl) rfl ?_
  refine cr_11 (d := d + 399) (by omega) hR hc (fun h hR => ?_)
  show zz_J zp_P zt_tf zt_fd X (d + 400) zm_law 405 [(0, .ref zz_out), (1, .ref 0), (2, .ref 61), (3, .int i)] [.int v] h Q
  refine zz_J.n 406 rfl rfl rfl ?_
  refine zz_J.n 407 rfl rfl rfl ?_
  refine zz_J.n 408 rfl rfl rfl ?_
  refine zz_J.c 409 (.int 1) rfl rfl rfl rfl ?_
  refine zz_J.n 410 rfl rfl rfl ?_
  refine zz_J.ai 411 rfl ((hx_ai (Nat.lt_irrefl _)).trans g1) rfl ?_
  refine zz_J.n 412 rfl rfl rfl ?_
  refine zz_J.n 413 rfl rfl rfl ?_
  refine zz_J.c 414 (.int 2) rfl rfl rfl rfl ?_
  refine zz_J.n 415 rfl rfl rfl ?_
  refine zz_J.ai 416 rfl ((hx_ai (Nat.lt_irrefl _)).trans g2) rfl ?_
  refine zz_J.cv 419 (as := [.int v]) rfl rfl (hR.clM rfl) (by decide) (Nat.le_of_ble_eq_true rfl) (Nat.le_of_ble_eq_true rfl) rfl (Nat.le_of_ble_eq_true rfl) rfl ?_
  have hE := mr_74 (X := X) (h := h) hR.big (d := d + 396) (Q := fun w h1 => w = some (.int v) ∧ h1 = mH h s') hm ⟨rfl, rfl⟩
  rw [hR.eqM] at hE
  refine zz_J.ofE hE ?_
  rintro w h1 ⟨rfl, rfl⟩
  have hR := hR.toM (s' := s')
  generalize mH h s' = h at hR ⊢
  show zz_J zp_P zt_tf zt_fd X (d + 400) zm_law 419 [(0, .ref zz_out), (1, .ref 0), (2, .ref 61), (3, .int i)] [.int v, .int v] h Q
  exact zz_J.b2 652 422 (A := v = v) rfl rfl (by decide) rfl rfl (fun _ => kk hR) (fun c => absurd rfl c)
theorem lw_10 {v : Int32} (hR : kR h t s) (g1 : hai X [] zz_out (i + 1) = some a1) (g2 : hai X [] zz_out (i + 2) = some a2) (hc : cf_12 N X a1 a2 t = some (t', .inl (some (.int v)))) (hm : mf_76 N a1 a2 s = some (s', some (.int v))) (kk : ∀ {h : zz_H}, kR h t' s' → zz_J zp_P zt_tf zt_fd X (d + 400) zm_law 652 [(0, .ref zz_out), (1, .ref 0), (2, .ref 61), (3, .int i)] [] h Q) : zz_J zp_P zt_tf zt_fd X (d + 400) zm_law 424 [(0, .ref zz_out), (1, .ref 0), (2, .ref 61), (3, .int i)] [] h Q := by
  refine zz_J.n 425 rfl rfl rfl ?_
  refine zz_J.n 426 rfl rfl rfl ?_
  refine zz_J.n 427 rfl rfl rfl ?_
  refine zz_J.c 428 (.int 1) rfl rfl rfl rfl ?_
  refine zz_J.n 429 rfl rfl rfl ?_
  refine zz_J.ai 430 rfl ((hx_ai (Nat.lt_irrefl _)).trans g1) rfl ?_
  refine zz_J.n 431 rfl rfl rfl ?_
  refine zz_J.n 432 rfl rfl rfl ?_
  refine zz_J.c 433 (.int 2) rfl rfl rfl rfl ?_
  refine zz_J.n 434 rfl rfl rfl ?_
  refine zz_J.ai 435 rfl ((hx_ai (Nat.lt_irrefl _)).trans g2) rfl ?_
  refine zz_J.cv 438 (as := []) rfl rfl (hR.clO ko_0 (by decide) (by decide)) (by decide) (Nat.le_of_ble_eq_true rfl) (Nat.le_of_ble_eq_true rfl) rfl (Nat.le_of_ble_eq_true rfl) rfl ?_
  refine cr_12 (d := d + 399) (by omega) hR hc (fun h hR => ?_)
  show zz_J zp_P zt_tf zt_fd X (d + 400) zm_law 438 [(0, .ref zz_out), (1, .ref 0), (2, .ref 61), (3, .int i)] [.int v] h Q
  refine zz_J.n 439 rfl rfl rfl ?_
  refine zz_J.n 440 rfl rfl rfl ?_
  refine zz_J.n 441 rfl rfl rfl ?_
  refine zz_J.c 442 (.int 1) rfl rfl rfl rfl ?_
  refine zz_J.n 443 rfl rfl rfl ?_
  refine zz_J.ai 444 rfl ((hx_ai (Nat.lt_irrefl _)).trans g1) rfl ?_
  refine zz_J.n 445 rfl rfl rfl ?_
  refine zz_J.n 446 rfl rfl rfl ?_
  refine zz_J.c 447 (.int 2) rfl rfl rfl rfl ?_
  refine zz_J.n 448 rfl rfl rfl ?_
  refine zz_J.ai 449 rfl ((hx_ai (Nat.lt_irrefl _)).trans g2) rfl ?_
  refine zz_J.cv 452 (as := [.int v]) rfl rfl (hR.clM rfl) (by decide) (Nat.le_of_ble_eq_true rfl) (Nat.le_of_ble_eq_true rfl) rfl (Nat.le_of_ble_eq_true rfl) rfl ?_
  have hE := mr_76 (X := X) (h := h) hR.big (d := d + 398) (Q := fun w h1 => w = some (.int v) ∧ h1 = mH h s') hm ⟨rfl, rfl⟩
  rw [hR.eqM] at hE
  refine zz_J.ofE hE ?_
  rintro w h1 ⟨rfl, rfl⟩
  have hR := hR.toM (s' := s')
  generalize mH h s' = h at hR ⊢
  show zz_J zp_P zt_tf zt_fd X (d + 400) zm_law 452 [(0, .ref zz_out), (1, .ref 0), (2, .ref 61), (3, .int i)] [.int v, .int v] h Q
  exact zz_J.b2 652 455 (A := v = v) rfl rfl (by decide) rfl rfl (fun _ => kk hR) (fun c => absurd rfl c)
theorem lw_11 {v : Int32} (hR : kR h t s) (g1 : hai X [] zz_out (i + 1) = some a1) (hc : cf_13 N X a1 t = some (t', .inl (some (.int v)))) (hm : mf_78 N a1 s = some (s', some (.int v))) (kk : ∀ {h : zz_H}, kR h t' s' → zz_J zp_P zt_tf zt_fd X (d + 400) zm_law 652 [(0, .ref zz_out), (1, .ref 0), (2, .ref 61), (3, .int i)] [] h Q) : zz_J zp_P zt_tf zt_fd X (d + 400) zm_law 457 [(0, .ref zz_out), (1, .ref 0), (2, .ref 61), (3, .int i)] [] h Q := by
  refine zz_J.n 458 rfl rfl rfl ?_
  refine zz_J.n 459 rfl rfl rfl ?_
  refine zz_J.n 460 rfl rfl rfl ?_
  refine zz_J.c 461 (.int 1) rfl rfl rfl rfl ?_
  refine zz_J.n 462 rfl rfl rfl ?_
  refine zz_J.ai 463 rfl ((hx_ai (Nat.lt_irrefl _)).trans g1) rfl ?_
  refine zz_J.cv 466 (as := []) rfl rfl (hR.clO ko_0 (by decide) (by decide)) (by decide) (Nat.le_of_ble_eq_true rfl) (Nat.le_of_ble_eq_true rfl) rfl (Nat.le_of_ble_eq_true rfl) rfl ?_
  refine cr_13 (d := d + 399) (by omega) hR hc (fun h hR => ?_)
  show zz_J zp_P zt_tf zt_fd X (d + 400) zm_law 466 [(0, .ref zz_out), (1, .ref 0), (2, .ref 61), (3, .int i)] [.int v] h Q
  refine zz_J.n 467 rfl rfl rfl ?_
  refine zz_J.n 468 rfl rfl rfl ?_
  refine zz_J.n 469 rfl rfl rfl ?_
  refine zz_J.c 470 (.int 1) rfl rfl rfl rfl ?_
  refine zz_J.n 471 rfl rfl rfl ?_
  refine zz_J.ai 472 rfl ((hx_ai (Nat.lt_irrefl _)).trans g1) rfl ?_
  refine zz_J.cv 475 (as := [.int v]) rfl rfl (hR.clM rfl) (by decide) (Nat.le_of_ble_eq_true rfl) (Nat.le_of_ble_eq_true rfl) rfl (Nat.le_of_ble_eq_true rfl) rfl ?_
  have hE := mr_78 (X := X) (h := h) hR.big (d := d + 398) (Q := fun w h1 => w = some (.int v) ∧ h1 = mH h s') hm ⟨rfl, rfl⟩
  rw [hR.eqM] at hE
  refine zz_J.ofE hE ?_
  rintro w h1 ⟨rfl, rfl⟩
  have hR := hR.toM (s' := s')
  generalize mH h s' = h at hR ⊢
  show zz_J zp_P zt_tf zt_fd X (d + 400) zm_law 475 [(0, .ref zz_out), (1, .ref 0), (2, .ref 61), (3, .int i)] [.int v, .int v] h Q
  exact zz_J.b2 652 478 (A := v = v) rfl rfl (by decide) rfl rfl (fun _ => kk hR) (fun c => absurd rfl c)
theorem lw_12 {v : Int32} (hR : kR h t s) (g1 : hai X [] zz_out (i + 1) = some a1) (hc : cf_14 N X a1 t = some (t', .inl (some (.int v)))) (hm : mf_79 N a1 s = some (s', some (.int v))) (kk : ∀ {h : zz_H}, kR h t' s' → zz_J zp_P zt_tf zt_fd X (d + 400) zm_law 652 [(0, .ref zz_out), (1, .ref 0), (2, .ref 61), (3, .int i)] [] h Q) : zz_J zp_P zt_tf zt_fd X (d + 400) zm_law 480 [(0, .ref zz_out), (1, .ref 0), (2, .ref 61), (3, .int i)] [] h Q := by
  refine zz_J.n 481 rfl rfl rfl ?_
  refine zz_J.n 482 rfl rfl rfl ?_
  refine zz_J.n 483 rfl rfl rfl ?_
  refine zz_J.c 484 (.int 1) rfl rfl rfl rfl ?_
  refine zz_J.n 485 rfl rfl rfl ?_
  refine zz_J.ai 486 rfl ((hx_ai (Nat.lt_irrefl _)).trans g1) rfl ?_
  refine zz_J.cv 489 (as := []) rfl rfl (hR.clO ko_0 (by decide) (by decide)) (by decide) (Nat.le_of_ble_eq_true rfl) (Nat.le_of_ble_eq_true rfl) rfl (Nat.le_of_ble_eq_true rfl) rfl ?_
  refine cr_14 (d := d + 399) (by omega) hR hc (fun h hR => ?_)
  show zz_J zp_P zt_tf zt_fd X (d + 400) zm_law 489 [(0, .ref zz_out), (1, .ref 0), (2, .ref 61), (3, .int i)] [.int v] h Q
  refine zz_J.n 490 rfl rfl rfl ?_
  refine zz_J.n 491 rfl rfl rfl ?_
  refine zz_J.n 492 rfl rfl rfl ?_
  refine zz_J.c 493 (.int 1) rfl rfl rfl rfl ?_
  refine zz_J.n 494 rfl rfl rfl ?_
  refine zz_J.ai 495 rfl ((hx_ai (Nat.lt_irrefl _)).trans g1) rfl ?_
  refine zz_J.cv 498 (as := [.int v]) rfl rfl (hR.clM rfl) (by decide) (Nat.le_of_ble_eq_true rfl) (Nat.le_of_ble_eq_true rfl) rfl (Nat.le_of_ble_eq_true rfl) rfl ?_
  have hE := mr_79 (X := X) (h := h) hR.big (d := d + 398) (Q := fun w h1 => w = some (.int v) ∧ h1 = mH h s') hm ⟨rfl, rfl⟩
  rw [hR.eqM] at hE
  refine zz_J.ofE hE ?_
  rintro w h1 ⟨rfl, rfl⟩
  have hR := hR.toM (s' := s')
  generalize mH h s' = h at hR ⊢
  show zz_J zp_P zt_tf zt_fd X (d + 400) zm_law 498 [(0, .ref zz_out), (1, .ref 0), (2, .ref 61), (3, .int i)] [.int v, .int v] h Q
  exact zz_J.b2 652 501 (A := v = v) rfl rfl (by decide) rfl rfl (fun _ => kk hR) (fun c => absurd rfl c)
theorem lw_13 {v : Int32} (hR : kR h t s) (g1 : hai X [] zz_out (i + 1) = some a1) (g2 : hai X [] zz_out (i + 2) = some a2) (hc : cf_15 N X a1 a2 t = some (t', .inl (some (.int v)))) (hm : mf_80 N a1 a2 s = some (s', some (.int v))) (kk : ∀ {h : zz_H}, kR h t' s' → zz_J zp_P zt_tf zt_fd X (d + 400) zm_law 652 [(0, .ref zz_out), (1, .ref 0), (2, .ref 61), (3, .int i)] [] h Q) : zz_J zp_P zt_tf zt_fd X (d + 400) zm_law 503 [(0, .ref zz_out), (1, .ref 0), (2, .ref 61), (3, .int i)] [] h Q := by
  refine zz_J.n 504 rfl rfl rfl ?_
  refine zz_J.n 505 rfl rfl rfl ?_
  refine zz_J.n 506 rfl rfl rfl ?_
  refine zz_J.c 507 (.int 1) rfl rfl rfl rfl ?_
  refine zz_J.n 508 rfl rfl rfl ?_
  refine zz_J.ai 509 rfl ((hx_ai (Nat.lt_irrefl _)).trans g1) rfl ?_
  refine zz_J.n 510 rfl rfl rfl ?_
  refine zz_J.n 511 rfl rfl rfl ?_
  refine zz_J.c 512 (.int 2) rfl rfl rfl rfl ?_
  refine zz_J.n 513 rfl rfl rfl ?_
  refine zz_J.ai 514 rfl ((hx_ai (Nat.lt_irrefl _)).trans g2) rfl ?_
  refine zz_J.cv 517 (as := []) rfl rfl (hR.clO ko_0 (by decide) (by decide)) (by decide) (Nat.le_of_ble_eq_true rfl) (Nat.le_of_ble_eq_true rfl) rfl (Nat.le_of_ble_eq_true rfl) rfl ?_
  refine cr_15 (d := d + 399) (by omega) hR hc (fun h hR => ?_)
  show zz_J zp_P zt_tf zt_fd X (d + 400) zm_law 517 [(0, .ref zz_out), (1, .ref 0), (2, .ref 61), (3, .int i)] [.int v] h Q
  refine zz_J.n 518 rfl rfl rfl ?_
  refine zz_J.n 519 rfl rfl rfl ?_
  refine zz_J.n 520 rfl rfl rfl ?_
  refine zz_J.c 521 (.int 1) rfl rfl rfl rfl ?_
  refine zz_J.n 522 rfl rfl rfl ?_
  refine zz_J.ai 523 rfl ((hx_ai (Nat.lt_irrefl _)).trans g1) rfl ?_
  refine zz_J.n 524 rfl rfl rfl ?_
  refine zz_J.n 525 rfl rfl rfl ?_
  refine zz_J.c 526 (.int 2) rfl rfl rfl rfl ?_
  refine zz_J.n 527 rfl rfl rfl ?_
  refine zz_J.ai 528 rfl ((hx_ai (Nat.lt_irrefl _)).trans g2) rfl ?_
  refine zz_J.cv 531 (as := [.int v]) rfl rfl (hR.clM rfl) (by decide) (Nat.le_of_ble_eq_true rfl) (Nat.le_of_ble_eq_true rfl) rfl (Nat.le_of_ble_eq_true rfl) rfl ?_
  have hE := mr_80 (X := X) (h := h) hR.big (d := d + 397) (Q := fun w h1 => w = some (.int v) ∧ h1 = mH h s') hm ⟨rfl, rfl⟩
  rw [hR.eqM] at hE
  refine zz_J.ofE hE ?_
  rintro w h1 ⟨rfl, rfl⟩
  have hR := hR.toM (s' := s')
  generalize mH h s' = h at hR ⊢
  show zz_J zp_P zt_tf zt_fd X (d + 400) zm_law 531 [(0, .ref zz_out), (1, .ref 0), (2, .ref 61), (3, .int i)] [.int v, .int v] h Q
  exact zz_J.b2 652 534 (A := v = v) rfl rfl (by decide) rfl rfl (fun _ => kk hR) (fun c => absurd rfl c)
theorem lw_14 {v : Int32} (hR : kR h t s) (g1 : hai X [] zz_out (i + 1) = some a1) (g2 : hai X [] zz_out (i + 2) = some a2) (g3 : hai X [] zz_out (i + 3) = some a3) (hc : cf_16 N X a1 a2 a3 t = some (t', .inl (some (.int v)))) (hm : mf_81 N a1 a2 a3 s = some (s', some (.int v))) (kk : ∀ {h : zz_H}, kR h t' s' → zz_J zp_P zt_tf zt_fd X (d + 400) zm_law 652 [(0, .ref zz_out), (1, .ref 0), (2, .ref 61), (3, .int i)] [] h Q) : zz_J zp_P zt_tf zt_fd X (d + 400) zm_law 536 [(0, .ref zz_out), (1, .ref 0), (2, .ref 61), (3, .int i)] [] h Q := by
  refine zz_J.n 537 rfl rfl rfl ?_
  refine zz_J.n 538 rfl rfl rfl ?_
  refine zz_J.n 539 rfl rfl rfl ?_
  refine zz_J.c 540 (.int 1) rfl rfl rfl rfl ?_
  refine zz_J.n 541 rfl rfl rfl ?_
  refine zz_J.ai 542 rfl ((hx_ai (Nat.lt_irrefl _)).trans g1) rfl ?_
  refine zz_J.n 543 rfl rfl rfl ?_
  refine zz_J.n 544 rfl rfl rfl ?_
  refine zz_J.c 545 (.int 2) rfl rfl rfl rfl ?_
  refine zz_J.n 546 rfl rfl rfl ?_
  refine zz_J.ai 547 rfl ((hx_ai (Nat.lt_irrefl _)).trans g2) rfl ?_
  refine zz_J.n 548 rfl rfl rfl ?_
  refine zz_J.n 549 rfl rfl rfl ?_
  refine zz_J.c 550 (.int 3) rfl rfl rfl rfl ?_
  refine zz_J.n 551 rfl rfl rfl ?_
  refine zz_J.ai 552 rfl ((hx_ai (Nat.lt_irrefl _)).trans g3) rfl ?_
  refine zz_J.cv 555 (as := []) rfl rfl (hR.clO ko_0 (by decide) (by decide)) (by decide) (Nat.le_of_ble_eq_true rfl) (Nat.le_of_ble_eq_true rfl) rfl (Nat.le_of_ble_eq_true rfl) rfl ?_
  refine cr_16 (d := d + 399) (by omega) hR hc (fun h hR => ?_)
  show zz_J zp_P zt_tf zt_fd X (d + 400) zm_law 555 [(0, .ref zz_out), (1, .ref 0), (2, .ref 61), (3, .int i)] [.int v] h Q
  refine zz_J.n 556 rfl rfl rfl ?_
  refine zz_J.n 557 rfl rfl rfl ?_
  refine zz_J.n 558 rfl rfl rfl ?_
  refine zz_J.c 559 (.int 1) rfl rfl rfl rfl ?_
  refine zz_J.n 560 rfl rfl rfl ?_
  refine zz_J.ai 561 rfl ((hx_ai (Nat.lt_irrefl _)).trans g1) rfl ?_
  refine zz_J.n 562 rfl rfl rfl ?_
  refine zz_J.n 563 rfl rfl rfl ?_
  refine zz_J.c 564 (.int 2) rfl rfl rfl rfl ?_
  refine zz_J.n 565 rfl rfl rfl ?_
  refine zz_J.ai 566 rfl ((hx_ai (Nat.lt_irrefl _)).trans g2) rfl ?_
  refine zz_J.n 567 rfl rfl rfl ?_
  refine zz_J.n 568 rfl rfl rfl ?_
  refine zz_J.c 569 (.int 3) rfl rfl rfl rfl ?_
  refine zz_J.n 570 rfl rfl rfl ?_
  refine zz_J.ai 571 rfl ((hx_ai (Nat.lt_irrefl _)).trans g3) rfl ?_
  refine zz_J.cv 574 (as := [.int v]) rfl rfl (hR.clM rfl) (by decide) (Nat.le_of_ble_eq_true rfl) (Nat.le_of_ble_eq_true rfl) rfl (Nat.le_of_ble_eq_true rfl) rfl ?_
  have hE := mr_81 (X := X) (h := h) hR.big (d := d + 397) (Q := fun w h1 => w = some (.int v) ∧ h1 = mH h s') hm ⟨rfl, rfl⟩
  rw [hR.eqM] at hE
  refine zz_J.ofE hE ?_
  rintro w h1 ⟨rfl, rfl⟩
  have hR := hR.toM (s' := s')
  generalize mH h s' = h at hR ⊢
  show zz_J zp_P zt_tf zt_fd X (d + 400) zm_law 574 [(0, .ref zz_out), (1, .ref 0), (2, .ref 61), (3, .int i)] [.int v, .int v] h Q
  exact zz_J.b2 652 577 (A := v = v) rfl rfl (by decide) rfl rfl (fun _ => kk hR) (fun c => absurd rfl c)
theorem lw_15 {v : Int32} (hR : kR h t s) (g1 : hai X [] zz_out (i + 1) = some a1) (g2 : hai X [] zz_out (i + 2) = some a2) (hc : cf_17 N X a1 a2 t = some (t', .inl (some (.int v)))) (hm : mf_82 N a1 a2 s = some (s', some (.int v))) (kk : ∀ {h : zz_H}, kR h t' s' → zz_J zp_P zt_tf zt_fd X (d + 400) zm_law 652 [(0, .ref zz_out), (1, .ref 0), (2, .ref 61), (3, .int i)] [] h Q) : zz_J zp_P zt_tf zt_fd X (d + 400) zm_law 579 [(0, .ref zz_out), (1, .ref 0), (2, .ref 61), (3, .int i)] [] h Q := by
  refine zz_J.n 580 rfl rfl rfl ?_
  refine zz_J.n 581 rfl rfl rfl ?_
  refine zz_J.n 582 rfl rfl rfl ?_
  refine zz_J.c 583 (.int 1) rfl rfl rfl rfl ?_
  refine zz_J.n 584 rfl rfl rfl ?_
  refine zz_J.ai 585 rfl ((hx_ai (Nat.lt_irrefl _)).trans g1) rfl ?_
  refine zz_J.n 586 rfl rfl rfl ?_
  refine zz_J.n 587 rfl rfl rfl ?_
  refine zz_J.c 588 (.int 2) rfl rfl rfl rfl ?_
  refine zz_J.n 589 rfl rfl rfl ?_
  refine zz_J.ai 590 rfl ((hx_ai (Nat.lt_irrefl _)).trans g2) rfl ?_
  refine zz_J.cv 593 (as := []) rfl rfl (hR.clO ko_0 (by decide) (by decide)) (by decide) (Nat.le_of_ble_eq_true rfl) (Nat.le_of_ble_eq_true rfl) rfl (Nat.le_of_ble_eq_true rfl) rfl ?_
  refine cr_17 (d := d + 399) (by omega) hR hc (fun h hR => ?_)
  show zz_J zp_P zt_tf zt_fd X (d + 400) zm_law 593 [(0, .ref zz_out), (1, .ref 0), (2, .ref 61), (3, .int i)] [.int v] h Q
  refine zz_J.n 594 rfl rfl rfl ?_
  refine zz_J.n 595 rfl rfl rfl ?_
  refine zz_J.n 596 rfl rfl rfl ?_
  refine zz_J.c 597 (.int 1) rfl rfl rfl rfl ?_
  refine zz_J.n 598 rfl rfl rfl ?_
  refine zz_J.ai 599 rfl ((hx_ai (Nat.lt_irrefl _)).trans g1) rfl ?_
  refine zz_J.n 600 rfl rfl rfl ?_
  refine zz_J.n 601 rfl rfl rfl ?_
  refine zz_J.c 602 (.int 2) rfl rfl rfl rfl ?_
  refine zz_J.n 603 rfl rfl rfl ?_
  refine zz_J.ai 604 rfl ((hx_ai (Nat.lt_irrefl _)).trans g2) rfl ?_
  refine zz_J.cv 607 (as := [.int v]) rfl rfl (hR.clM rfl) (by decide) (Nat.le_of_ble_eq_true rfl) (Nat.le_of_ble_eq_true rfl) rfl (Nat.le_of_ble_eq_true rfl) rfl ?_
  have hE := mr_82 (X := X) (h := h) hR.big (d := d + 395) (Q := fun w h1 => w = some (.int v) ∧ h1 = mH h s') hm ⟨rfl, rfl⟩
  rw [hR.eqM] at hE
  refine zz_J.ofE hE ?_
  rintro w h1 ⟨rfl, rfl⟩
  have hR := hR.toM (s' := s')
  generalize mH h s' = h at hR ⊢
  show zz_J zp_P zt_tf zt_fd X (d + 400) zm_law 607 [(0, .ref zz_out), (1, .ref 0), (2, .ref 61), (3, .int i)] [.int v, .int v] h Q
  exact zz_J.b2 652 610 (A := v = v) rfl rfl (by decide) rfl rfl (fun _ => kk hR) (fun c => absurd rfl c)
theorem lw_16 {v : Int32} (hR : kR h t s)  (hc : cf_18 N X  t = some (t', .inl (some (.int v)))) (hm : mf_83 N  s = some (s', some (.int v))) (kk : ∀ {h : zz_H}, kR h t' s' → zz_J zp_P zt_tf zt_fd X (d + 400) zm_law 652 [(0, .ref zz_out), (1, .ref 0), (2, .ref 61), (3, .int i)] [] h Q) : zz_J zp_P zt_tf zt_fd X (d + 400) zm_law 612 [(0, .ref zz_out), (1, .ref 0), (2, .ref 61), (3, .int i)] [] h Q := by
  refine zz_J.n 613 rfl rfl rfl ?_
  refine zz_J.cv 616 (as := []) rfl rfl (hR.clO ko_0 (by decide) (by decide)) (by decide) (Nat.le_of_ble_eq_true rfl) (Nat.le_of_ble_eq_true rfl) rfl (Nat.le_of_ble_eq_true rfl) rfl ?_
  refine cr_18 (d := d + 399) (by omega) hR hc (fun h hR => ?_)
  show zz_J zp_P zt_tf zt_fd X (d + 400) zm_law 616 [(0, .ref zz_out), (1, .ref 0), (2, .ref 61), (3, .int i)] [.int v] h Q
  refine zz_J.n 617 rfl rfl rfl ?_
  refine zz_J.cv 620 (as := [.int v]) rfl rfl (hR.clM rfl) (by decide) (Nat.le_of_ble_eq_true rfl) (Nat.le_of_ble_eq_true rfl) rfl (Nat.le_of_ble_eq_true rfl) rfl ?_
  have hE := mr_83 (X := X) (h := h) hR.big (d := d + 395) (Q := fun w h1 => w = some (.int v) ∧ h1 = mH h s') hm ⟨rfl, rfl⟩
  rw [hR.eqM] at hE
  refine zz_J.ofE hE ?_
  rintro w h1 ⟨rfl, rfl⟩
  have hR := hR.toM (s' := s')
  generalize mH h s' = h at hR ⊢
  show zz_J zp_P zt_tf zt_fd X (d + 400) zm_law 620 [(0, .ref zz_out), (1, .ref 0), (2, .ref 61), (3, .int i)] [.int v, .int v] h Q
  exact zz_J.b2 652 623 (A := v = v) rfl rfl (by decide) rfl rfl (fun _ => kk hR) (fun c => absurd rfl c)
theorem lw_17 {v : Int32} (hR : kR h t s)  (hc : cf_19 N X  t = some (t', .inl (some (.int v)))) (hm : mf_85 N  s = some (s', some (.int v))) (kk : ∀ {h : zz_H}, kR h t' s' → zz_J zp_P zt_tf zt_fd X (d + 400) zm_law 652 [(0, .ref zz_out), (1, .ref 0), (2, .ref 61), (3, .int i)] [] h Q) : zz_J zp_P zt_tf zt_fd X (d + 400) zm_law 625 [(0, .ref zz_out), (1, .ref 0), (2, .ref 61), (3, .int i)] [] h Q := by
  refine zz_J.n 626 rfl rfl rfl ?_
  refine zz_J.cv 629 (as := []) rfl rfl (hR.clO ko_0 (by decide) (by decide)) (by decide) (Nat.le_of_ble_eq_true rfl) (Nat.le_of_ble_eq_true rfl) rfl (Nat.le_of_ble_eq_true rfl) rfl ?_
  refine cr_19 (d := d + 399) (by omega) hR hc (fun h hR => ?_)
  show zz_J zp_P zt_tf zt_fd X (d + 400) zm_law 629 [(0, .ref zz_out), (1, .ref 0), (2, .ref 61), (3, .int i)] [.int v] h Q
  refine zz_J.n 630 rfl rfl rfl ?_
  refine zz_J.cv 633 (as := [.int v]) rfl rfl (hR.clM rfl) (by decide) (Nat.le_of_ble_eq_true rfl) (Nat.le_of_ble_eq_true rfl) rfl (Nat.le_of_ble_eq_true rfl) rfl ?_
  have hE := mr_85 (X := X) (h := h) hR.big (d := d + 395) (Q := fun w h1 => w = some (.int v) ∧ h1 = mH h s') hm ⟨rfl, rfl⟩
  rw [hR.eqM] at hE
  refine zz_J.ofE hE ?_
  rintro w h1 ⟨rfl, rfl⟩
  have hR := hR.toM (s' := s')
  generalize mH h s' = h at hR ⊢
  show zz_J zp_P zt_tf zt_fd X (d + 400) zm_law 633 [(0, .ref zz_out), (1, .ref 0), (2, .ref 61), (3, .int i)] [.int v, .int v] h Q
  exact zz_J.b2 652 636 (A := v = v) rfl rfl (by decide) rfl rfl (fun _ => kk hR) (fun c => absurd rfl c)
theorem lw_18 {v : Int64} (hR : kR h t s)  (hc : cf_20 N X  t = some (t', .inl (some (.long v)))) (hm : mf_86 N  s = some (s', some (.long v))) (kk : ∀ {h : zz_H}, kR h t' s' → zz_J zp_P zt_tf zt_fd X (d + 400) zm_law 652 [(0, .ref zz_out), (1, .ref 0), (2, .ref 61), (3, .int i)] [] h Q) : zz_J zp_P zt_tf zt_fd X (d + 400) zm_law 638 [(0, .ref zz_out), (1, .ref 0), (2, .ref 61), (3, .int i)] [] h Q := by
  refine zz_J.n 639 rfl rfl rfl ?_
  refine zz_J.cv 642 (as := []) rfl rfl (hR.clO ko_0 (by decide) (by decide)) (by decide) (Nat.le_of_ble_eq_true rfl) (Nat.le_of_ble_eq_true rfl) rfl (Nat.le_of_ble_eq_true rfl) rfl ?_
  refine cr_20 (d := d + 399) (by omega) hR hc (fun h hR => ?_)
  show zz_J zp_P zt_tf zt_fd X (d + 400) zm_law 642 [(0, .ref zz_out), (1, .ref 0), (2, .ref 61), (3, .int i)] [.long v] h Q
  refine zz_J.n 643 rfl rfl rfl ?_
  refine zz_J.cv 646 (as := [.long v]) rfl rfl (hR.clM rfl) (by decide) (Nat.le_of_ble_eq_true rfl) (Nat.le_of_ble_eq_true rfl) rfl (Nat.le_of_ble_eq_true rfl) rfl ?_
  have hE := mr_86 (X := X) (h := h) hR.big (d := d + 395) (Q := fun w h1 => w = some (.long v) ∧ h1 = mH h s') hm ⟨rfl, rfl⟩
  rw [hR.eqM] at hE
  refine zz_J.ofE hE ?_
  rintro w h1 ⟨rfl, rfl⟩
  have hR := hR.toM (s' := s')
  generalize mH h s' = h at hR ⊢
  show zz_J zp_P zt_tf zt_fd X (d + 400) zm_law 646 [(0, .ref zz_out), (1, .ref 0), (2, .ref 61), (3, .int i)] [.long v, .long v] h Q
  refine zz_J.n 647 rfl rfl rfl ?_
  exact zz_J.b1 652 650 (A := lg_cmp v v = 0) rfl rfl (by decide) rfl rfl (fun _ => kk hR) (fun c => absurd (lg_cmp_self v) c)
end LW
/-- a call, and what both answer (X: the cells outside; N: how far loops may go) -/
def lwC (N : Nat) (X : Nat → Option zz_C) (op : Nat) (a1 a2 a3 a4 a5 : Int32) (t : cS) (s : mS) (t' : cS) (s' : mS) : Prop := match op with
  | 0 => ∃ v : Int32, cf_1 N X a1 a2 a3 a4 a5 t = some (t', .inl (some (.int v))) ∧ mf_57 N a1 a2 a3 a4 a5 s = some (s', some (.int v))
  | 1 => ∃ v : Int32, cf_3 N X a1 t = some (t', .inl (some (.int v))) ∧ mf_59 N a1 s = some (s', some (.int v))
  | 2 => ∃ v : Int32, cf_4 N X a1 t = some (t', .inl (some (.int v))) ∧ mf_65 N a1 s = some (s', some (.int v))
  | 3 => ∃ v : Int32, cf_5 N X a1 a2 t = some (t', .inl (some (.int v))) ∧ mf_67 N a1 a2 s = some (s', some (.int v))
  | 4 => ∃ v : Int32, cf_6 N X a1 a2 a3 t = some (t', .inl (some (.int v))) ∧ mf_68 N a1 a2 a3 s = some (s', some (.int v))
  | 5 => ∃ v : Int32, cf_7 N X a1 t = some (t', .inl (some (.int v))) ∧ mf_69 N a1 s = some (s', some (.int v))
  | 6 => ∃ v : Int32, cf_8 N X a1 t = some (t', .inl (some (.int v))) ∧ mf_70 N a1 s = some (s', some (.int v))
  | 7 => ∃ v : Int32, cf_9 N X  t = some (t', .inl (some (.int v))) ∧ mf_71 N  s = some (s', some (.int v))
  | 8 => ∃ v : Int32, cf_10 N X a1 t = some (t', .inl (some (.int v))) ∧ mf_72 N a1 s = some (s', some (.int v))
  | 9 => ∃ v : Int32, cf_11 N X a1 a2 t = some (t', .inl (some (.int v))) ∧ mf_74 N a1 a2 s = some (s', some (.int v))
  | 10 => ∃ v : Int32, cf_12 N X a1 a2 t = some (t', .inl (some (.int v))) ∧ mf_76 N a1 a2 s = some (s', some (.int v))
  | 11 => ∃ v : Int32, cf_13 N X a1 t = some (t', .inl (some (.int v))) ∧ mf_78 N a1 s = some (s', some (.int v))
  | 12 => ∃ v : Int32, cf_14 N X a1 t = some (t', .inl (some (.int v))) ∧ mf_79 N a1 s = some (s', some (.int v))
  | 13 => ∃ v : Int32, cf_15 N X a1 a2 t = some (t', .inl (some (.int v))) ∧ mf_80 N a1 a2 s = some (s', some (.int v))
  | 14 => ∃ v : Int32, cf_16 N X a1 a2 a3 t = some (t', .inl (some (.int v))) ∧ mf_81 N a1 a2 a3 s = some (s', some (.int v))
  | 15 => ∃ v : Int32, cf_17 N X a1 a2 t = some (t', .inl (some (.int v))) ∧ mf_82 N a1 a2 s = some (s', some (.int v))
  | 16 => ∃ v : Int32, cf_18 N X  t = some (t', .inl (some (.int v))) ∧ mf_83 N  s = some (s', some (.int v))
  | 17 => ∃ v : Int32, cf_19 N X  t = some (t', .inl (some (.int v))) ∧ mf_85 N  s = some (s', some (.int v))
  | 18 => ∃ v : Int64, cf_20 N X  t = some (t', .inl (some (.long v))) ∧ mf_86 N  s = some (s', some (.long v))
  | _ => t' = t ∧ s' = s
section LX
variable {X : Nat → Option zz_C} {d N : Nat} {Q : zz_O → zz_H → Prop}
/-- one round of the law's loop, from the switch on -/
theorem lw_op {h : zz_H} {t t' : cS} {s s' : mS} {i op a1 a2 a3 a4 a5 : Int32} (hR : kR h t s) (g1 : hai X [] zz_out (i + 1) = some a1) (g2 : hai X [] zz_out (i + 2) = some a2) (g3 : hai X [] zz_out (i + 3) = some a3) (g4 : hai X [] zz_out (i + 4) = some a4) (g5 : hai X [] zz_out (i + 5) = some a5) (hop : 0 ≤ op.toInt) (hC : lwC N X op.toInt.toNat a1 a2 a3 a4 a5 t s t' s') (kk : ∀ {h : zz_H}, kR h t' s' → zz_J zp_P zt_tf zt_fd X (d + 400) zm_law 652 [(0, .ref zz_out), (1, .ref 0), (2, .ref 61), (3, .int i)] [] h Q) : zz_J zp_P zt_tf zt_fd X (d + 400) zm_law 33 [(0, .ref zz_out), (1, .ref 0), (2, .ref 61), (3, .int i)] [.int op] h Q := by
  by_cases hx : op.toInt < 0 ∨ 18 < op.toInt
  · refine zz_J.td 652 rfl hx (by decide) rfl ?_
    have : ∃ k, op.toInt.toNat = k + 19 := ⟨op.toInt.toNat - 19, by omega⟩
    obtain ⟨k, hk⟩ := this
    rw [hk] at hC
    obtain ⟨rfl, rfl⟩ := hC
    exact kk hR
  · have hv : op.toInt = 0 ∨ op.toInt = 1 ∨ op.toInt = 2 ∨ op.toInt = 3 ∨ op.toInt = 4 ∨ op.toInt = 5 ∨ op.toInt = 6 ∨ op.toInt = 7 ∨ op.toInt = 8 ∨ op.toInt = 9 ∨ op.toInt = 10 ∨ op.toInt = 11 ∨ op.toInt = 12 ∨ op.toInt = 13 ∨ op.toInt = 14 ∨ op.toInt = 15 ∨ op.toInt = 16 ∨ op.toInt = 17 ∨ op.toInt = 18 := by omega
    rcases hv with hv | hv | hv | hv | hv | hv | hv | hv | hv | hv | hv | hv | hv | hv | hv | hv | hv | hv | hv
    · have e : op = 0 := Int32.toInt_inj.mp (hv.trans rfl)
      rw [hv] at hC
      obtain ⟨v, hc, hm⟩ := hC
      exact zz_J.tv 124 rfl e rfl (lw_0 hR g1 g2 g3 g4 g5 hc hm kk)
    · have e : op = 1 := Int32.toInt_inj.mp (hv.trans rfl)
      rw [hv] at hC
      obtain ⟨v, hc, hm⟩ := hC
      exact zz_J.tv 187 rfl e rfl (lw_1 hR g1 hc hm kk)
    · have e : op = 2 := Int32.toInt_inj.mp (hv.trans rfl)
      rw [hv] at hC
      obtain ⟨v, hc, hm⟩ := hC
      exact zz_J.tv 210 rfl e rfl (lw_2 hR g1 hc hm kk)
    · have e : op = 3 := Int32.toInt_inj.mp (hv.trans rfl)
      rw [hv] at hC
      obtain ⟨v, hc, hm⟩ := hC
      exact zz_J.tv 233 rfl e rfl (lw_3 hR g1 g2 hc hm kk)
    · have e : op = 4 := Int32.toInt_inj.mp (hv.trans rfl)
      rw [hv] at hC
      obtain ⟨v, hc, hm⟩ := hC
      exact zz_J.tv 266 rfl e rfl (lw_4 hR g1 g2 g3 hc hm kk)
    · have e : op = 5 := Int32.toInt_inj.mp (hv.trans rfl)
      rw [hv] at hC
      obtain ⟨v, hc, hm⟩ := hC
      exact zz_J.tv 309 rfl e rfl (lw_5 hR g1 hc hm kk)
    · have e : op = 6 := Int32.toInt_inj.mp (hv.trans rfl)
      rw [hv] at hC
      obtain ⟨v, hc, hm⟩ := hC
      exact zz_J.tv 332 rfl e rfl (lw_6 hR g1 hc hm kk)
    · have e : op = 7 := Int32.toInt_inj.mp (hv.trans rfl)
      rw [hv] at hC
      obtain ⟨v, hc, hm⟩ := hC
      exact zz_J.tv 355 rfl e rfl (lw_7 hR  hc hm kk)
    · have e : op = 8 := Int32.toInt_inj.mp (hv.trans rfl)
      rw [hv] at hC
      obtain ⟨v, hc, hm⟩ := hC
      exact zz_J.tv 368 rfl e rfl (lw_8 hR g1 hc hm kk)
    · have e : op = 9 := Int32.toInt_inj.mp (hv.trans rfl)
      rw [hv] at hC
      obtain ⟨v, hc, hm⟩ := hC
      exact zz_J.tv 391 rfl e rfl (lw_9 hR g1 g2 hc hm kk)
    · have e : op = 10 := Int32.toInt_inj.mp (hv.trans rfl)
      rw [hv] at hC
      obtain ⟨v, hc, hm⟩ := hC
      exact zz_J.tv 424 rfl e rfl (lw_10 hR g1 g2 hc hm kk)
    · have e : op = 11 := Int32.toInt_inj.mp (hv.trans rfl)
      rw [hv] at hC
      obtain ⟨v, hc, hm⟩ := hC
      exact zz_J.tv 457 rfl e rfl (lw_11 hR g1 hc hm kk)
    · have e : op = 12 := Int32.toInt_inj.mp (hv.trans rfl)
      rw [hv] at hC
      obtain ⟨v, hc, hm⟩ := hC
      exact zz_J.tv 480 rfl e rfl (lw_12 hR g1 hc hm kk)
    · have e : op = 13 := Int32.toInt_inj.mp (hv.trans rfl)
      rw [hv] at hC
      obtain ⟨v, hc, hm⟩ := hC
      exact zz_J.tv 503 rfl e rfl (lw_13 hR g1 g2 hc hm kk)
    · have e : op = 14 := Int32.toInt_inj.mp (hv.trans rfl)
      rw [hv] at hC
      obtain ⟨v, hc, hm⟩ := hC
      exact zz_J.tv 536 rfl e rfl (lw_14 hR g1 g2 g3 hc hm kk)
    · have e : op = 15 := Int32.toInt_inj.mp (hv.trans rfl)
      rw [hv] at hC
      obtain ⟨v, hc, hm⟩ := hC
      exact zz_J.tv 579 rfl e rfl (lw_15 hR g1 g2 hc hm kk)
    · have e : op = 16 := Int32.toInt_inj.mp (hv.trans rfl)
      rw [hv] at hC
      obtain ⟨v, hc, hm⟩ := hC
      exact zz_J.tv 612 rfl e rfl (lw_16 hR  hc hm kk)
    · have e : op = 17 := Int32.toInt_inj.mp (hv.trans rfl)
      rw [hv] at hC
      obtain ⟨v, hc, hm⟩ := hC
      exact zz_J.tv 625 rfl e rfl (lw_17 hR  hc hm kk)
    · have e : op = 18 := Int32.toInt_inj.mp (hv.trans rfl)
      rw [hv] at hC
      obtain ⟨v, hc, hm⟩ := hC
      exact zz_J.tv 638 rfl e rfl (lw_18 hR  hc hm kk)
end LX
