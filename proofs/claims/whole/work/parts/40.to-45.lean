-- ### 40.law.lean.txt
section
/-! ===== the law, over both states ===== -/
section LW
variable {X : Nat → Option zz_C} {h : zz_H} {t t' : cS} {s s' : mS} {d N : Nat} {Q : zz_O → zz_H → Prop} {i a1 a2 a3 a4 a5 : Int32}
theorem zz_J.ofE {P : Nat → Option zz_M} {tf : Nat → Nat → FieldType} {fd : Nat → List Value} {d : Nat} {M : zz_M} {pc : Nat} {lv : List (Nat × Value)} {st : List Value} {h : zz_H} {Q1 : Option Value → zz_H → Prop} (hE : zz_E P tf fd X d M pc lv st h Q1) (k : ∀ v h, Q1 v h → Q (.inl v) h) : zz_J P tf fd X d M pc lv st h Q := by
  obtain ⟨n, v, hf, h1, h2⟩ := hE
  exact ⟨n, .inl v, hf, h1, k _ _ h2⟩
theorem kR.big (hR : kR h t s) : 111 ≤ h.length := by
  obtain ⟨own, h1, h2, h3, h4, h5, h6, h7⟩ := hR
  have e := (h4 49 (by decide)).1
  have e1 : (mC s)[49]? = some ((mC s)[49]'(by rw [mC_len]; decide)) := List.getElem?_eq_getElem _
  rw [e1] at e
  have := (List.getElem?_eq_some_iff.mp e).1
  omega
theorem kR.eqM (hR : kR h t s) : mH h s = h := by
  have hb := hR.big
  obtain ⟨own, h1, h2, h3, h4, h5, h6, h7⟩ := hR
  apply List.ext_getElem?
  intro j
  unfold mH
  by_cases c1 : j < 61
  · rw [List.getElem?_append_left (by rw [List.length_take]; omega), List.getElem?_take, if_pos c1]
  · rw [List.getElem?_append_right (by rw [List.length_take]; omega), List.length_take]
    by_cases c2 : j < 111
    · rw [List.getElem?_append_left (by rw [mC_len]; omega)]
      have := (h4 (j - 61) (by omega)).1
      rw [show 61 + (j - 61) = j from by omega] at this
      rw [show j - min 61 h.length = j - 61 from by omega]
      exact this.symm
    · rw [List.getElem?_append_right (by rw [mC_len]; omega), mC_len, List.getElem?_drop]
      congr 1
      omega
theorem kR.toM (hR : kR h t s) : kR (mH h s') t s' := by
  have hb := hR.big
  obtain ⟨own, h1, h2, h3, h4, h5, h6, h7⟩ := hR
  have keep : ∀ x, ¬ (61 ≤ x ∧ x < 111) → (mH h s')[x]? = h[x]? := fun x hx => by
    unfold mH
    by_cases c1 : x < 61
    · rw [List.getElem?_append_left (by rw [List.length_take]; omega), List.getElem?_take, if_pos c1]
    · rw [List.getElem?_append_right (by rw [List.length_take]; omega), List.length_take, List.getElem?_append_right (by rw [mC_len]; omega), mC_len, List.getElem?_drop]
      congr 1
      omega
  have out : ∀ x, (∀ j, own x ≠ 4 * j + 3) → ¬ (61 ≤ x ∧ x < 111) := fun x hx c => by
    have := (h4 (x - 61) (by omega)).2
    rw [show 61 + (x - 61) = x from by omega] at this
    exact hx _ this
  have hmid : ∀ j, j < 50 → (mH h s')[61 + j]? = (mC s')[j]? := fun j hj => by
    unfold mH
    rw [List.getElem?_append_right (by rw [List.length_take]; omega), List.length_take, List.getElem?_append_left (by rw [mC_len]; omega)]
    congr 1
    omega
  refine ⟨own, ?_, ?_, ?_, ?_, ?_, ?_, h7⟩
  · intro k c hk
    obtain ⟨e1, o1⟩ := h1 k c hk
    exact ⟨(keep k (out k (fun j => by omega))).trans e1, o1⟩
  · intro k c hk
    obtain ⟨e1, o1⟩ := h2 k c hk
    exact ⟨(keep _ (out _ (fun j => by omega))).trans e1, o1⟩
  · intro k hk
    obtain ⟨e1, o1⟩ := h3 k hk
    exact ⟨(keep _ (out _ (fun j => by omega))).trans e1, o1⟩
  · intro j hj
    exact ⟨hmid j hj, (h4 j hj).2⟩
  · rw [mH_len hb]
    exact h5
  · rw [← h6]
    have e0 : h = mH h s := by
      have : kR h t s := ⟨own, h1, h2, h3, h4, h5, h6, h7⟩
      exact this.eqM.symm
    conv => rhs; rw [e0]
    unfold mH
    rw [zz_sl_apps, zz_sl_apps, zz_sl_apps, zz_sl_apps]
    rfl
theorem kR.clM (hR : kR h t s) {nn : Int} (hn : nn = 13) : hcl X h 61 nn = true := by
  obtain ⟨own, h1, h2, h3, h4, h5, h6, h7⟩ := hR
  have e := (h4 0 (by decide)).1
  have e1 : h[61]? = some (.inr (13, mF s)) := e
  subst hn
  unfold hcl zz_rd
  rw [if_pos (by decide), e1]
  dsimp only
  exact decide_eq_true ⟨by decide, Or.inl rfl⟩
theorem lg_cmp_self (v : Int64) : lg_cmp v v = 0 := by
  unfold lg_cmp
  simp
theorem lw_0 {v : Int32} (hR : kR h t s) (g1 : hai X [] zz_out (i + 1) = some a1) (g2 : hai X [] zz_out (i + 2) = some a2) (g3 : hai X [] zz_out (i + 3) = some a3) (g4 : hai X [] zz_out (i + 4) = some a4) (g5 : hai X [] zz_out (i + 5) = some a5) (hc : cf_1 N X a1 a2 a3 a4 a5 t = some (t', .inl (some (.int v)))) (hm : mf_57 N a1 a2 a3 a4 a5 s = some (s', some (.int v))) (kk : ∀ {h : zz_H}, kR h t' s' → zz_J zp_P zt_tf zt_fd X (d + 400) zm_law 652 [(0, .ref zz_out), (1, .ref 0), (2, .ref 61), (3, .int i)] [] h Q) : zz_J zp_P zt_tf zt_fd X (d + 400) zm_law 124 [(0, .ref zz_out), (1, .ref 0), (2, .ref 61), (3, .int i)] [] h Q := by
  refine zz_J.n 125 rfl rfl rfl ?_
  refine zz_J.n 126 rfl rfl rfl ?_
  refine zz_J.n 127 rfl rfl rfl ?_
  refine zz_J.c 128 (.int 1) rfl rfl rfl rfl ?_
  refine zz_J.n 129 rfl rfl rfl ?_
  refine zz_J.ai 130 rfl ((hx_ai (Nat.lt_irrefl _)).trans g1) rfl ?_
  refine zz_J.n 131 rfl rfl rfl ?_
  refine zz_J.n 132 rfl rfl rfl ?_
  refine zz_J.c 133 (.int 2) rfl rfl rfl rfl ?_
  refine zz_J.n 134 rfl rfl rfl ?_
  refine zz_J.ai 135 rfl ((hx_ai (Nat.lt_irrefl _)).trans g2) rfl ?_
  refine zz_J.n 136 rfl rfl rfl ?_
  refine zz_J.n 137 rfl rfl rfl ?_
  refine zz_J.c 138 (.int 3) rfl rfl rfl rfl ?_
  refine zz_J.n 139 rfl rfl rfl ?_
  refine zz_J.ai 140 rfl ((hx_ai (Nat.lt_irrefl _)).trans g3) rfl ?_
  refine zz_J.n 141 rfl rfl rfl ?_
  refine zz_J.n 142 rfl rfl rfl ?_
  refine zz_J.c 143 (.int 4) rfl rfl rfl rfl ?_
  refine zz_J.n 144 rfl rfl rfl ?_
  refine zz_J.ai 145 rfl ((hx_ai (Nat.lt_irrefl _)).trans g4) rfl ?_
  refine zz_J.n 146 rfl rfl rfl ?_
  refine zz_J.n 147 rfl rfl rfl ?_
  refine zz_J.c 148 (.int 5) rfl rfl rfl rfl ?_
  refine zz_J.n 149 rfl rfl rfl ?_
  refine zz_J.ai 150 rfl ((hx_ai (Nat.lt_irrefl _)).trans g5) rfl ?_
  refine zz_J.cv 153 (as := []) rfl rfl (hR.clO ko_0 (by decide) (by decide)) (by decide) (Nat.le_of_ble_eq_true rfl) (Nat.le_of_ble_eq_true rfl) rfl (Nat.le_of_ble_eq_true rfl) rfl ?_
  refine cr_1 (d := d + 399) (by omega) hR hc (fun h hR => ?_)
  show zz_J zp_P zt_tf zt_fd X (d + 400) zm_law 153 [(0, .ref zz_out), (1, .ref 0), (2, .ref 61), (3, .int i)] [.int v] h Q
  refine zz_J.n 154 rfl rfl rfl ?_
  refine zz_J.n 155 rfl rfl rfl ?_
  refine zz_J.n 156 rfl rfl rfl ?_
  refine zz_J.c 157 (.int 1) rfl rfl rfl rfl ?_
  refine zz_J.n 158 rfl rfl rfl ?_
  refine zz_J.ai 159 rfl ((hx_ai (Nat.lt_irrefl _)).trans g1) rfl ?_
  refine zz_J.n 160 rfl rfl rfl ?_
  refine zz_J.n 161 rfl rfl rfl ?_
  refine zz_J.c 162 (.int 2) rfl rfl rfl rfl ?_
  refine zz_J.n 163 rfl rfl rfl ?_
  refine zz_J.ai 164 rfl ((hx_ai (Nat.lt_irrefl _)).trans g2) rfl ?_
  refine zz_J.n 165 rfl rfl rfl ?_
  refine zz_J.n 166 rfl rfl rfl ?_
  refine zz_J.c 167 (.int 3) rfl rfl rfl rfl ?_
  refine zz_J.n 168 rfl rfl rfl ?_
  refine zz_J.ai 169 rfl ((hx_ai (Nat.lt_irrefl _)).trans g3) rfl ?_
  refine zz_J.n 170 rfl rfl rfl ?_
  refine zz_J.n 171 rfl rfl rfl ?_
  refine zz_J.c 172 (.int 4) rfl rfl rfl rfl ?_
  refine zz_J.n 173 rfl rfl rfl ?_
  refine zz_J.ai 174 rfl ((hx_ai (Nat.lt_irrefl _)).trans g4) rfl ?_
  refine zz_J.n 175 rfl rfl rfl ?_
  refine zz_J.n 176 rfl rfl rfl ?_
  refine zz_J.c 177 (.int 5) rfl rfl rfl rfl ?_
  refine zz_J.n 178 rfl rfl rfl ?_
  refine zz_J.ai 179 rfl ((hx_ai (Nat.lt_irrefl _)).trans g5) rfl ?_
  refine zz_J.cv 182 (as := [.int v]) rfl rfl (hR.clM rfl) (by decide) (Nat.le_of_ble_eq_true rfl) (Nat.le_of_ble_eq_true rfl) rfl (Nat.le_of_ble_eq_true rfl) rfl ?_
  have hE := mr_57 (X := X) (h := h) hR.big (d := d + 398) (Q := fun w h1 => w = some (.int v) ∧ h1 = mH h s') hm ⟨rfl, rfl⟩
  rw [hR.eqM] at hE
  refine zz_J.ofE hE ?_
  rintro w h1 ⟨rfl, rfl⟩
  have hR := hR.toM (s' := s')
  generalize mH h s' = h at hR ⊢
  show zz_J zp_P zt_tf zt_fd X (d + 400) zm_law 182 [(0, .ref zz_out), (1, .ref 0), (2, .ref 61), (3, .int i)] [.int v, .int v] h Q
  exact zz_J.b2 652 185 (A := v = v) rfl rfl (by decide) rfl rfl (fun _ => kk hR) (fun c => absurd rfl c)
theorem lw_1 {v : Int32} (hR : kR h t s) (g1 : hai X [] zz_out (i + 1) = some a1) (hc : cf_3 N X a1 t = some (t', .inl (some (.int v)))) (hm : mf_59 N a1 s = some (s', some (.int v))) (kk : ∀ {h : zz_H}, kR h t' s' → zz_J zp_P zt_tf zt_fd X (d + 400) zm_law 652 [(0, .ref zz_out), (1, .ref 0), (2, .ref 61), (3, .int i)] [] h Q) : zz_J zp_P zt_tf zt_fd X (d + 400) zm_law 187 [(0, .ref zz_out), (1, .ref 0), (2, .ref 61), (3, .int i)] [] h Q := by
  refine zz_J.n 188 rfl rfl rfl ?_
  refine zz_J.n 189 rfl rfl rfl ?_
  refine zz_J.n 190 rfl rfl rfl ?_
  refine zz_J.c 191 (.int 1) rfl rfl rfl rfl ?_
  refine zz_J.n 192 rfl rfl rfl ?_
  refine zz_J.ai 193 rfl ((hx_ai (Nat.lt_irrefl _)).trans g1) rfl ?_
  refine zz_J.cv 196 (as := []) rfl rfl (hR.clO ko_0 (by decide) (by decide)) (by decide) (Nat.le_of_ble_eq_true rfl) (Nat.le_of_ble_eq_true rfl) rfl (Nat.le_of_ble_eq_true rfl) rfl ?_
  refine cr_3 (d := d + 399) (by omega) hR hc (fun h hR => ?_)
  show zz_J zp_P zt_tf zt_fd X (d + 400) zm_law 196 [(0, .ref zz_out), (1, .ref 0), (2, .ref 61), (3, .int i)] [.int v] h Q
  refine zz_J.n 197 rfl rfl rfl ?_
  refine zz_J.n 198 rfl rfl rfl ?_
  refine zz_J.n 199 rfl rfl rfl ?_
  refine zz_J.c 200 (.int 1) rfl rfl rfl rfl ?_
  refine zz_J.n 201 rfl rfl rfl ?_
  refine zz_J.ai 202 rfl ((hx_ai (Nat.lt_irrefl _)).trans g1) rfl ?_
  refine zz_J.cv 205 (as := [.int v]) rfl rfl (hR.clM rfl) (by decide) (Nat.le_of_ble_eq_true rfl) (Nat.le_of_ble_eq_true rfl) rfl (Nat.le_of_ble_eq_true rfl) rfl ?_
  have hE := mr_59 (X := X) (h := h) hR.big (d := d + 387) (Q := fun w h1 => w = some (.int v) ∧ h1 = mH h s') hm ⟨rfl, rfl⟩
  rw [hR.eqM] at hE
  refine zz_J.ofE hE ?_
  rintro w h1 ⟨rfl, rfl⟩
  have hR := hR.toM (s' := s')
  generalize mH h s' = h at hR ⊢
  show zz_J zp_P zt_tf zt_fd X (d + 400) zm_law 205 [(0, .ref zz_out), (1, .ref 0), (2, .ref 61), (3, .int i)] [.int v, .int v] h Q
  exact zz_J.b2 652 208 (A := v = v) rfl rfl (by decide) rfl rfl (fun _ => kk hR) (fun c => absurd rfl c)
theorem lw_2 {v : Int32} (hR : kR h t s) (g1 : hai X [] zz_out (i + 1) = some a1) (hc : cf_4 N X a1 t = some (t', .inl (some (.int v)))) (hm : mf_65 N a1 s = some (s', some (.int v))) (kk : ∀ {h : zz_H}, kR h t' s' → zz_J zp_P zt_tf zt_fd X (d + 400) zm_law 652 [(0, .ref zz_out), (1, .ref 0), (2, .ref 61), (3, .int i)] [] h Q) : zz_J zp_P zt_tf zt_fd X (d + 400) zm_law 210 [(0, .ref zz_out), (1, .ref 0), (2, .ref 61), (3, .int i)] [] h Q := by
  refine zz_J.n 211 rfl rfl rfl ?_
  refine zz_J.n 212 rfl rfl rfl ?_
  refine zz_J.n 213 rfl rfl rfl ?_
  refine zz_J.c 214 (.int 1) rfl rfl rfl rfl ?_
  refine zz_J.n 215 rfl rfl rfl ?_
  refine zz_J.ai 216 rfl ((hx_ai (Nat.lt_irrefl _)).trans g1) rfl ?_
  refine zz_J.cv 219 (as := []) rfl rfl (hR.clO ko_0 (by decide) (by decide)) (by decide) (Nat.le_of_ble_eq_true rfl) (Nat.le_of_ble_eq_true rfl) rfl (Nat.le_of_ble_eq_true rfl) rfl ?_
  refine cr_4 (d := d + 399) (by omega) hR hc (fun h hR => ?_)
  show zz_J zp_P zt_tf zt_fd X (d + 400) zm_law 219 [(0, .ref zz_out), (1, .ref 0), (2, .ref 61), (3, .int i)] [.int v] h Q
  refine zz_J.n 220 rfl rfl rfl ?_
  refine zz_J.n 221 rfl rfl rfl ?_
  refine zz_J.n 222 rfl rfl rfl ?_
  refine zz_J.c 223 (.int 1) rfl rfl rfl rfl ?_
  refine zz_J.n 224 rfl rfl rfl ?_
  refine zz_J.ai 225 rfl ((hx_ai (Nat.lt_irrefl _)).trans g1) rfl ?_
  refine zz_J.cv 228 (as := [.int v]) rfl rfl (hR.clM rfl) (by decide) (Nat.le_of_ble_eq_true rfl) (Nat.le_of_ble_eq_true rfl) rfl (Nat.le_of_ble_eq_true rfl) rfl ?_
  have hE := mr_65 (X := X) (h := h) hR.big (d := d + 399) (Q := fun w h1 => w = some (.int v) ∧ h1 = mH h s') hm ⟨rfl, rfl⟩
  rw [hR.eqM] at hE
  refine zz_J.ofE hE ?_
  rintro w h1 ⟨rfl, rfl⟩
  have hR := hR.toM (s' := s')
  generalize mH h s' = h at hR ⊢
  show zz_J zp_P zt_tf zt_fd X (d + 400) zm_law 228 [(0, .ref zz_out), (1, .ref 0), (2, .ref 61), (3, .int i)] [.int v, .int v] h Q
  exact zz_J.b2 652 231 (A := v = v) rfl rfl (by decide) rfl rfl (fun _ => kk hR) (fun c => absurd rfl c)
theorem lw_3 {v : Int32} (hR : kR h t s) (g1 : hai X [] zz_out (i + 1) = some a1) (g2 : hai X [] zz_out (i + 2) = some a2) (hc : cf_5 N X a1 a2 t = some (t', .inl (some (.int v)))) (hm : mf_67 N a1 a2 s = some (s', some (.int v))) (kk : ∀ {h : zz_H}, kR h t' s' → zz_J zp_P zt_tf zt_fd X (d + 400) zm_law 652 [(0, .ref zz_out), (1, .ref 0), (2, .ref 61), (3, .int i)] [] h Q) : zz_J zp_P zt_tf zt_fd X (d + 400) zm_law 233 [(0, .ref zz_out), (1, .ref 0), (2, .ref 61), (3, .int i)] [] h Q := by
  refine zz_J.n 234 rfl rfl rfl ?_
  refine zz_J.n 235 rfl rfl rfl ?_
  refine zz_J.n 236 rfl rfl rfl ?_
  refine zz_J.c 237 (.int 1) rfl rfl rfl rfl ?_
  refine zz_J.n 238 rfl rfl rfl ?_
  refine zz_J.ai 239 rfl ((hx_ai (Nat.lt_irrefl _)).trans g1) rfl ?_
  refine zz_J.n 240 rfl rfl rfl ?_
  refine zz_J.n 241 rfl rfl rfl ?_
  refine zz_J.c 242 (.int 2) rfl rfl rfl rfl ?_
  refine zz_J.n 243 rfl rfl rfl ?_
  refine zz_J.ai 244 rfl ((hx_ai (Nat.lt_irrefl _)).trans g2) rfl ?_
  refine zz_J.cv 247 (as := []) rfl rfl (hR.clO ko_0 (by decide) (by decide)) (by decide) (Nat.le_of_ble_eq_true rfl) (Nat.le_of_ble_eq_true rfl) rfl (Nat.le_of_ble_eq_true rfl) rfl ?_
  refine cr_5 (d := d + 399) (by omega) hR hc (fun h hR => ?_)
  show zz_J zp_P zt_tf zt_fd X (d + 400) zm_law 247 [(0, .ref zz_out), (1, .ref 0), (2, .ref 61), (3, .int i)] [.int v] h Q
  refine zz_J.n 248 rfl rfl rfl ?_
  refine zz_J.n 249 rfl rfl rfl ?_
  refine zz_J.n 250 rfl rfl rfl ?_
  refine zz_J.c 251 (.int 1) rfl rfl rfl rfl ?_
  refine zz_J.n 252 rfl rfl rfl ?_
  refine zz_J.ai 253 rfl ((hx_ai (Nat.lt_irrefl _)).trans g1) rfl ?_
  refine zz_J.n 254 rfl rfl rfl ?_
  refine zz_J.n 255 rfl rfl rfl ?_
  refine zz_J.c 256 (.int 2) rfl rfl rfl rfl ?_
  refine zz_J.n 257 rfl rfl rfl ?_
  refine zz_J.ai 258 rfl ((hx_ai (Nat.lt_irrefl _)).trans g2) rfl ?_
  refine zz_J.cv 261 (as := [.int v]) rfl rfl (hR.clM rfl) (by decide) (Nat.le_of_ble_eq_true rfl) (Nat.le_of_ble_eq_true rfl) rfl (Nat.le_of_ble_eq_true rfl) rfl ?_
  have hE := mr_67 (X := X) (h := h) hR.big (d := d + 399) (Q := fun w h1 => w = some (.int v) ∧ h1 = mH h s') hm ⟨rfl, rfl⟩
  rw [hR.eqM] at hE
  refine zz_J.ofE hE ?_
  rintro w h1 ⟨rfl, rfl⟩
  have hR := hR.toM (s' := s')
  generalize mH h s' = h at hR ⊢
  show zz_J zp_P zt_tf zt_fd X (d + 400) zm_law 261 [(0, .ref zz_out), (1, .ref 0), (2, .ref 61), (3, .int i)] [.int v, .int v] h Q
  exact zz_J.b2 652 264 (A := v = v) rfl rfl (by decide) rfl rfl (fun _ => kk hR) (fun c => absurd rfl c)
theorem lw_4 {v : Int32} (hR : kR h t s) (g1 : hai X [] zz_out (i + 1) = some a1) (g2 : hai X [] zz_out (i + 2) = some a2) (g3 : hai X [] zz_out (i + 3) = some a3) (hc : cf_6 N X a1 a2 a3 t = some (t', .inl (some (.int v)))) (hm : mf_68 N a1 a2 a3 s = some (s', some (.int v))) (kk : ∀ {h : zz_H}, kR h t' s' → zz_J zp_P zt_tf zt_fd X (d + 400) zm_law 652 [(0, .ref zz_out), (1, .ref 0), (2, .ref 61), (3, .int i)] [] h Q) : zz_J zp_P zt_tf zt_fd X (d + 400) zm_law 266 [(0, .ref zz_out), (1, .ref 0), (2, .ref 61), (3, .int i)] [] h Q := by
  refine zz_J.n 267 rfl rfl rfl ?_
  refine zz_J.n 268 rfl rfl rfl ?_
  refine zz_J.n 269 rfl rfl rfl ?_
  refine zz_J.c 270 (.int 1) rfl rfl rfl rfl ?_
  refine zz_J.n 271 rfl rfl rfl ?_
  refine zz_J.ai 272 rfl ((hx_ai (Nat.lt_irrefl _)).trans g1) rfl ?_
  refine zz_J.n 273 rfl rfl rfl ?_
  refine zz_J.n 274 rfl rfl rfl ?_
  refine zz_J.c 275 (.int 2) rfl rfl rfl rfl ?_
  refine zz_J.n 276 rfl rfl rfl ?_
  refine zz_J.ai 277 rfl ((hx_ai (Nat.lt_irrefl _)).trans g2) rfl ?_
  refine zz_J.n 278 rfl rfl rfl ?_
  refine zz_J.n 279 rfl rfl rfl ?_
  refine zz_J.c 280 (.int 3) rfl rfl rfl rfl ?_
  refine zz_J.n 281 rfl rfl rfl ?_
  refine zz_J.ai 282 rfl ((hx_ai (Nat.lt_irrefl _)).trans g3) rfl ?_
  refine zz_J.cv 285 (as := []) rfl rfl (hR.clO ko_0 (by decide) (by decide)) (by decide) (Nat.le_of_ble_eq_true rfl) (Nat.le_of_ble_eq_true rfl) rfl (Nat.le_of_ble_eq_true rfl) rfl ?_
  refine cr_6 (d := d + 399) (by omega) hR hc (fun h hR => ?_)
  show zz_J zp_P zt_tf zt_fd X (d + 400) zm_law 285 [(0, .ref zz_out), (1, .ref 0), (2, .ref 61), (3, .int i)] [.int v] h Q
  refine zz_J.n 286 rfl rfl rfl ?_
  refine zz_J.n 287 rfl rfl rfl ?_
  refine zz_J.n 288 rfl rfl rfl ?_
  refine zz_J.c 289 (.int 1) rfl rfl rfl rfl ?_
  refine zz_J.n 290 rfl rfl rfl ?_
  refine zz_J.ai 291 rfl ((hx_ai (Nat.lt_irrefl _)).trans g1) rfl ?_
  refine zz_J.n 292 rfl rfl rfl ?_
  refine zz_J.n 293 rfl rfl rfl ?_
  refine zz_J.c 294 (.int 2) rfl rfl rfl rfl ?_
  refine zz_J.n 295 rfl rfl rfl ?_
  refine zz_J.ai 296 rfl ((hx_ai (Nat.lt_irrefl _)).trans g2) rfl ?_
  refine zz_J.n 297 rfl rfl rfl ?_
  refine zz_J.n 298 rfl rfl rfl ?_
  refine zz_J.c 299 (.int 3) rfl rfl rfl rfl ?_
  refine zz_J.n 300 rfl rfl rfl ?_
  refine zz_J.ai 301 rfl ((hx_ai (Nat.lt_irrefl _)).trans g3) rfl ?_
  refine zz_J.cv 304 (as := [.int v]) rfl rfl (hR.clM rfl) (by decide) (Nat.le_of_ble_eq_true rfl) (Nat.le_of_ble_eq_true rfl) rfl (Nat.le_of_ble_eq_true rfl) rfl ?_
  have hE := mr_68 (X := X) (h := h) hR.big (d := d + 390) (Q := fun w h1 => w = some (.int v) ∧ h1 = mH h s') hm ⟨rfl, rfl⟩
  rw [hR.eqM] at hE
  refine zz_J.ofE hE ?_
  rintro w h1 ⟨rfl, rfl⟩
  have hR := hR.toM (s' := s')
  generalize mH h s' = h at hR ⊢
  show zz_J zp_P zt_tf zt_fd X (d + 400) zm_law 304 [(0, .ref zz_out), (1, .ref 0), (2, .ref 61), (3, .int i)] [.int v, .int v] h Q
  exact zz_J.b2 652 307 (A := v = v) rfl rfl (by decide) rfl rfl (fun _ => kk hR) (fun c => absurd rfl c)
theorem lw_5 {v : Int32} (hR : kR h t s) (g1 : hai X [] zz_out (i + 1) = some a1) (hc : cf_7 N X a1 t = some (t', .inl (some (.int v)))) (hm : mf_69 N a1 s = some (s', some (.int v))) (kk : ∀ {h : zz_H}, kR h t' s' → zz_J zp_P zt_tf zt_fd X (d + 400) zm_law 652 [(0, .ref zz_out), (1, .ref 0), (2, .ref 61), (3, .int i)] [] h Q) : zz_J zp_P zt_tf zt_fd X (d + 400) zm_law 309 [(0, .ref zz_out), (1, .ref 0), (2, .ref 61), (3, .int i)] [] h Q := by
  refine zz_J.n 310 rfl rfl rfl ?_
  refine zz_J.n 311 rfl rfl rfl ?_
  refine zz_J.n 312 rfl rfl rfl ?_
  refine zz_J.c 313 (.int 1) rfl rfl rfl rfl ?_
  refine zz_J.n 314 rfl rfl rfl ?_
  refine zz_J.ai 315 rfl ((hx_ai (Nat.lt_irrefl _)).trans g1) rfl ?_
  refine zz_J.cv 318 (as := []) rfl rfl (hR.clO ko_0 (by decide) (by decide)) (by decide) (Nat.le_of_ble_eq_true rfl) (Nat.le_of_ble_eq_true rfl) rfl (Nat.le_of_ble_eq_true rfl) rfl ?_
  refine cr_7 (d := d + 399) (by omega) hR hc (fun h hR => ?_)
  show zz_J zp_P zt_tf zt_fd X (d + 400) zm_law 318 [(0, .ref zz_out), (1, .ref 0), (2, .ref 61), (3, .int i)] [.int v] h Q
  refine zz_J.n 319 rfl rfl rfl ?_
  refine zz_J.n 320 rfl rfl rfl ?_
  refine zz_J.n 321 rfl rfl rfl ?_
  refine zz_J.c 322 (.int 1) rfl rfl rfl rfl ?_
  refine zz_J.n 323 rfl rfl rfl ?_
  refine zz_J.ai 324 rfl ((hx_ai (Nat.lt_irrefl _)).trans g1) rfl ?_
  refine zz_J.cv 327 (as := [.int v]) rfl rfl (hR.clM rfl) (by decide) (Nat.le_of_ble_eq_true rfl) (Nat.le_of_ble_eq_true rfl) rfl (Nat.le_of_ble_eq_true rfl) rfl ?_
  have hE := mr_69 (X := X) (h := h) hR.big (d := d + 399) (Q := fun w h1 => w = some (.int v) ∧ h1 = mH h s') hm ⟨rfl, rfl⟩
  rw [hR.eqM] at hE
  refine zz_J.ofE hE ?_
  rintro w h1 ⟨rfl, rfl⟩
  have hR := hR.toM (s' := s')
  generalize mH h s' = h at hR ⊢
  show zz_J zp_P zt_tf zt_fd X (d + 400) zm_law 327 [(0, .ref zz_out), (1, .ref 0), (2, .ref 61), (3, .int i)] [.int v, .int v] h Q
  exact zz_J.b2 652 330 (A := v = v) rfl rfl (by decide) rfl rfl (fun _ => kk hR) (fun c => absurd rfl c)
theorem lw_6 {v : Int32} (hR : kR h t s) (g1 : hai X [] zz_out (i + 1) = some a1) (hc : cf_8 N X a1 t = some (t', .inl (some (.int v)))) (hm : mf_70 N a1 s = some (s', some (.int v))) (kk : ∀ {h : zz_H}, kR h t' s' → zz_J zp_P zt_tf zt_fd X (d + 400) zm_law 652 [(0, .ref zz_out), (1, .ref 0), (2, .ref 61), (3, .int i)] [] h Q) : zz_J zp_P zt_tf zt_fd X (d + 400) zm_law 332 [(0, .ref zz_out), (1, .ref 0), (2, .ref 61), (3, .int i)] [] h Q := by
  refine zz_J.n 333 rfl rfl rfl ?_
  refine zz_J.n 334 rfl rfl rfl ?_
  refine zz_J.n 335 rfl rfl rfl ?_
  refine zz_J.c 336 (.int 1) rfl rfl rfl rfl ?_
  refine zz_J.n 337 rfl rfl rfl ?_
  refine zz_J.ai 338 rfl ((hx_ai (Nat.lt_irrefl _)).trans g1) rfl ?_
  refine zz_J.cv 341 (as := []) rfl rfl (hR.clO ko_0 (by decide) (by decide)) (by decide) (Nat.le_of_ble_eq_true rfl) (Nat.le_of_ble_eq_true rfl) rfl (Nat.le_of_ble_eq_true rfl) rfl ?_
  refine cr_8 (d := d + 399) (by omega) hR hc (fun h hR => ?_)
  show zz_J zp_P zt_tf zt_fd X (d + 400) zm_law 341 [(0, .ref zz_out), (1, .ref 0), (2, .ref 61), (3, .int i)] [.int v] h Q
  refine zz_J.n 342 rfl rfl rfl ?_
  refine zz_J.n 343 rfl rfl rfl ?_
  refine zz_J.n 344 rfl rfl rfl ?_
  refine zz_J.c 345 (.int 1) rfl rfl rfl rfl ?_
  refine zz_J.n 346 rfl rfl rfl ?_
  refine zz_J.ai 347 rfl ((hx_ai (Nat.lt_irrefl _)).trans g1) rfl ?_
  refine zz_J.cv 350 (as := [.int v]) rfl rfl (hR.clM rfl) (by decide) (Nat.le_of_ble_eq_true rfl) (Nat.le_of_ble_eq_true rfl) rfl (Nat.le_of_ble_eq_true rfl) rfl ?_
  have hE := mr_70 (X := X) (h := h) hR.big (d := d + 399) (Q := fun w h1 => w = some (.int v) ∧ h1 = mH h s') hm ⟨rfl, rfl⟩
  rw [hR.eqM] at hE
  refine zz_J.ofE hE ?_
  rintro w h1 ⟨rfl, rfl⟩
  have hR := hR.toM (s' := s')
  generalize mH h s' = h at hR ⊢
  show zz_J zp_P zt_tf zt_fd X (d + 400) zm_law 350 [(0, .ref zz_out), (1, .ref 0), (2, .ref 61), (3, .int i)] [.int v, .int v] h Q
  exact zz_J.b2 652 353 (A := v = v) rfl rfl (by decide) rfl rfl (fun _ => kk hR) (fun c => absurd rfl c)
theorem lw_7 {v : Int32} (hR : kR h t s)  (hc : cf_9 N X  t = some (t', .inl (some (.int v)))) (hm : mf_71 N  s = some (s', some (.int v))) (kk : ∀ {h : zz_H}, kR h t' s' → zz_J zp_P zt_tf zt_fd X (d + 400) zm_law 652 [(0, .ref zz_out), (1, .ref 0), (2, .ref 61), (3, .int i)] [] h Q) : zz_J zp_P zt_tf zt_fd X (d + 400) zm_law 355 [(0, .ref zz_out), (1, .ref 0), (2, .ref 61), (3, .int i)] [] h Q := by
  refine zz_J.n 356 rfl rfl rfl ?_
  refine zz_J.cv 359 (as := []) rfl rfl (hR.clO ko_0 (by decide) (by decide)) (by decide) (Nat.le_of_ble_eq_true rfl) (Nat.le_of_ble_eq_true rfl) rfl (Nat.le_of_ble_eq_true rfl) rfl ?_
  refine cr_9 (d := d + 399) (by omega) hR hc (fun h hR => ?_)
  show zz_J zp_P zt_tf zt_fd X (d + 400) zm_law 359 [(0, .ref zz_out), (1, .ref 0), (2, .ref 61), (3, .int i)] [.int v] h Q
  refine zz_J.n 360 rfl rfl rfl ?_
  refine zz_J.cv 363 (as := [.int v]) rfl rfl (hR.clM rfl) (by decide) (Nat.le_of_ble_eq_true rfl) (Nat.le_of_ble_eq_true rfl) rfl (Nat.le_of_ble_eq_true rfl) rfl ?_
  have hE := mr_71 (X := X) (h := h) hR.big (d := d + 399) (Q := fun w h1 => w = some (.int v) ∧ h1 = mH h s') hm ⟨rfl, rfl⟩
  rw [hR.eqM] at hE
  refine zz_J.ofE hE ?_
  rintro w h1 ⟨rfl, rfl⟩
  have hR := hR.toM (s' := s')
  generalize mH h s' = h at hR ⊢
  show zz_J zp_P zt_tf zt_fd X (d + 400) zm_law 363 [(0, .ref zz_out), (1, .ref 0), (2, .ref 61), (3, .int i)] [.int v, .int v] h Q
  exact zz_J.b2 652 366 (A := v = v) rfl rfl (by decide) rfl rfl (fun _ => kk hR) (fun c => absurd rfl c)
theorem lw_8 {v : Int32} (hR : kR h t s) (g1 : hai X [] zz_out (i + 1) = some a1) (hc : cf_10 N X a1 t = some (t', .inl (some (.int v)))) (hm : mf_72 N a1 s = some (s', some (.int v))) (kk : ∀ {h : zz_H}, kR h t' s' → zz_J zp_P zt_tf zt_fd X (d + 400) zm_law 652 [(0, .ref zz_out), (1, .ref 0), (2, .ref 61), (3, .int i)] [] h Q) : zz_J zp_P zt_tf zt_fd X (d + 400) zm_law 368 [(0, .ref zz_out), (1, .ref 0), (2, .ref 61), (3, .int i)] [] h Q := by
  refine zz_J.n 369 rfl rfl rfl ?_
  refine zz_J.n 370 rfl rfl rfl ?_
  refine zz_J.n 371 rfl rfl rfl ?_
  refine zz_J.c 372 (.int 1) rfl rfl rfl rfl ?_
  refine zz_J.n 373 rfl rfl rfl ?_
  refine zz_J.ai 374 rfl ((hx_ai (Nat.lt_irrefl _)).trans g1) rfl ?_
  refine zz_J.cv 377 (as := []) rfl rfl (hR.clO ko_0 (by decide) (by decide)) (by decide) (Nat.le_of_ble_eq_true rfl) (Nat.le_of_ble_eq_true rfl) rfl (Nat.le_of_ble_eq_true rfl) rfl ?_
  refine cr_10 (d := d + 399) (by omega) hR hc (fun h hR => ?_)
  show zz_J zp_P zt_tf zt_fd X (d + 400) zm_law 377 [(0, .ref zz_out), (1, .ref 0), (2, .ref 61), (3, .int i)] [.int v] h Q
  refine zz_J.n 378 rfl rfl rfl ?_
  refine zz_J.n 379 rfl rfl rfl ?_
  refine zz_J.n 380 rfl rfl rfl ?_
  refine zz_J.c 381 (.int 1) rfl rfl rfl rfl ?_
  refine zz_J.n 382 rfl rfl rfl ?_
  refine zz_J.ai 383 rfl ((hx_ai (Nat.lt_irrefl _)).trans g1) rfl ?_
  refine zz_J.cv 386 (as := [.int v]) rfl rfl (hR.clM rfl) (by decide) (Nat.le_of_ble_eq_true rfl) (Nat.le_of_ble_eq_true rfl) rfl (Nat.le_of_ble_eq_true rfl) rfl ?_
  have hE := mr_72 (X := X) (h := h) hR.big (d := d + 394) (Q := fun w h1 => w = some (.int v) ∧ h1 = mH h s') hm ⟨rfl, rfl⟩
  rw [hR.eqM] at hE
  refine zz_J.ofE hE ?_
  rintro w h1 ⟨rfl, rfl⟩
  have hR := hR.toM (s' := s')
  generalize mH h s' = h at hR ⊢
  show zz_J zp_P zt_tf zt_fd X (d + 400) zm_law 386 [(0, .ref zz_out), (1, .ref 0), (2, .ref 61), (3, .int i)] [.int v, .int v] h Q
  exact zz_J.b2 652 389 (A := v = v) rfl rfl (by decide) rfl rfl (fun _ => kk hR) (fun c => absurd rfl c)
theorem lw_9 {v : Int32} (hR : kR h t s) (g1 : hai X [] zz_out (i + 1) = some a1) (g2 : hai X [] zz_out (i + 2) = some a2) (hc : cf_11 N X a1 a2 t = some (t', .inl (some (.int v)))) (hm : mf_74 N a1 a2 s = some (s', some (.int v))) (kk : ∀ {h : zz_H}, kR h t' s' → zz_J zp_P zt_tf zt_fd X (d + 400) zm_law 652 [(0, .ref zz_out), (1, .ref 0), (2, .ref 61), (3, .int i)] [] h Q) : zz_J zp_P zt_tf zt_fd X (d + 400) zm_law 391 [(0, .ref zz_out), (1, .ref 0), (2, .ref 61), (3, .int i)] [] h Q := by
  refine zz_J.n 392 rfl rfl rfl ?_
  refine zz_J.n 393 rfl rfl rfl ?_
  refine zz_J.n 394 rfl rfl rfl ?_
  refine zz_J.c 395 (.int 1) rfl rfl rfl rfl ?_
  refine zz_J.n 396 rfl rfl rfl ?_
  refine zz_J.ai 397 rfl ((hx_ai (Nat.lt_irrefl _)).trans g1) rfl ?_
  refine zz_J.n 398 rfl rfl rfl ?_
  refine zz_J.n 399 rfl rfl rfl ?_
  refine zz_J.c 400 (.int 2) rfl rfl rfl rfl ?_
  refine zz_J.n 401 rfl rfl rfl ?_
  refine zz_J.ai 402 rfl ((hx_ai (Nat.lt_irrefl _)).trans g2) rfl ?_
  refine zz_J.cv 405 (as := []) rfl rfl (hR.clO ko_0 (by decide) (by decide)) (by decide) (Nat.le_of_ble_eq_true rfl) (Nat.le_of_ble_eq_true rfl) rfl (Nat.le_of_ble_eq_true rfl) rfl ?_
  refine cr_11 (d := d + 399) (by omega) hR hc (fun h hR => ?_)
  show zz_J zp_P zt_tf zt_fd X (d + 400) zm_law 405 [(0, .ref zz_out), (1, .ref 0), (2, .ref 61), (3, .int i)] [.int v] h Q
  refine zz_J.n 406 rfl rfl rfl ?_
  refine zz_J.n 407 rfl rfl rfl ?_
  refine zz_J.n 408 rfl rfl rfl ?_
  refine zz_J.c 409 (.int 1) rfl rfl rfl rfl ?_
  refine zz_J.n 410 rfl rfl rfl ?_
  refine zz_J.ai 411 rfl ((hx_ai (Nat.lt_irrefl _)).trans g1) rfl ?_
  refine zz_J.n 412 rfl rfl rfl ?_
  refine zz_J.n 413 rfl rfl rfl ?_
  refine zz_J.c 414 (.int 2) rfl rfl rfl rfl ?_
  refine zz_J.n 415 rfl rfl rfl ?_
  refine zz_J.ai 416 rfl ((hx_ai (Nat.lt_irrefl _)).trans g2) rfl ?_
  refine zz_J.cv 419 (as := [.int v]) rfl rfl (hR.clM rfl) (by decide) (Nat.le_of_ble_eq_true rfl) (Nat.le_of_ble_eq_true rfl) rfl (Nat.le_of_ble_eq_true rfl) rfl ?_
  have hE := mr_74 (X := X) (h := h) hR.big (d := d + 396) (Q := fun w h1 => w = some (.int v) ∧ h1 = mH h s') hm ⟨rfl, rfl⟩
  rw [hR.eqM] at hE
  refine zz_J.ofE hE ?_
  rintro w h1 ⟨rfl, rfl⟩
  have hR := hR.toM (s' := s')
  generalize mH h s' = h at hR ⊢
  show zz_J zp_P zt_tf zt_fd X (d + 400) zm_law 419 [(0, .ref zz_out), (1, .ref 0), (2, .ref 61), (3, .int i)] [.int v, .int v] h Q
  exact zz_J.b2 652 422 (A := v = v) rfl rfl (by decide) rfl rfl (fun _ => kk hR) (fun c => absurd rfl c)
theorem lw_10 {v : Int32} (hR : kR h t s) (g1 : hai X [] zz_out (i + 1) = some a1) (g2 : hai X [] zz_out (i + 2) = some a2) (hc : cf_12 N X a1 a2 t = some (t', .inl (some (.int v)))) (hm : mf_76 N a1 a2 s = some (s', some (.int v))) (kk : ∀ {h : zz_H}, kR h t' s' → zz_J zp_P zt_tf zt_fd X (d + 400) zm_law 652 [(0, .ref zz_out), (1, .ref 0), (2, .ref 61), (3, .int i)] [] h Q) : zz_J zp_P zt_tf zt_fd X (d + 400) zm_law 424 [(0, .ref zz_out), (1, .ref 0), (2, .ref 61), (3, .int i)] [] h Q := by
  refine zz_J.n 425 rfl rfl rfl ?_
  refine zz_J.n 426 rfl rfl rfl ?_
  refine zz_J.n 427 rfl rfl rfl ?_
  refine zz_J.c 428 (.int 1) rfl rfl rfl rfl ?_
  refine zz_J.n 429 rfl rfl rfl ?_
  refine zz_J.ai 430 rfl ((hx_ai (Nat.lt_irrefl _)).trans g1) rfl ?_
  refine zz_J.n 431 rfl rfl rfl ?_
  refine zz_J.n 432 rfl rfl rfl ?_
  refine zz_J.c 433 (.int 2) rfl rfl rfl rfl ?_
  refine zz_J.n 434 rfl rfl rfl ?_
  refine zz_J.ai 435 rfl ((hx_ai (Nat.lt_irrefl _)).trans g2) rfl ?_
  refine zz_J.cv 438 (as := []) rfl rfl (hR.clO ko_0 (by decide) (by decide)) (by decide) (Nat.le_of_ble_eq_true rfl) (Nat.le_of_ble_eq_true rfl) rfl (Nat.le_of_ble_eq_true rfl) rfl ?_
  refine cr_12 (d := d + 399) (by omega) hR hc (fun h hR => ?_)
  show zz_J zp_P zt_tf zt_fd X (d + 400) zm_law 438 [(0, .ref zz_out), (1, .ref 0), (2, .ref 61), (3, .int i)] [.int v] h Q
  refine zz_J.n 439 rfl rfl rfl ?_
  refine zz_J.n 440 rfl rfl rfl ?_
  refine zz_J.n 441 rfl rfl rfl ?_
  refine zz_J.c 442 (.int 1) rfl rfl rfl rfl ?_
  refine zz_J.n 443 rfl rfl rfl ?_
  refine zz_J.ai 444 rfl ((hx_ai (Nat.lt_irrefl _)).trans g1) rfl ?_
  refine zz_J.n 445 rfl rfl rfl ?_
  refine zz_J.n 446 rfl rfl rfl ?_
  refine zz_J.c 447 (.int 2) rfl rfl rfl rfl ?_
  refine zz_J.n 448 rfl rfl rfl ?_
  refine zz_J.ai 449 rfl ((hx_ai (Nat.lt_irrefl _)).trans g2) rfl ?_
  refine zz_J.cv 452 (as := [.int v]) rfl rfl (hR.clM rfl) (by decide) (Nat.le_of_ble_eq_true rfl) (Nat.le_of_ble_eq_true rfl) rfl (Nat.le_of_ble_eq_true rfl) rfl ?_
  have hE := mr_76 (X := X) (h := h) hR.big (d := d + 398) (Q := fun w h1 => w = some (.int v) ∧ h1 = mH h s') hm ⟨rfl, rfl⟩
  rw [hR.eqM] at hE
  refine zz_J.ofE hE ?_
  rintro w h1 ⟨rfl, rfl⟩
  have hR := hR.toM (s' := s')
  generalize mH h s' = h at hR ⊢
  show zz_J zp_P zt_tf zt_fd X (d + 400) zm_law 452 [(0, .ref zz_out), (1, .ref 0), (2, .ref 61), (3, .int i)] [.int v, .int v] h Q
  exact zz_J.b2 652 455 (A := v = v) rfl rfl (by decide) rfl rfl (fun _ => kk hR) (fun c => absurd rfl c)
theorem lw_11 {v : Int32} (hR : kR h t s) (g1 : hai X [] zz_out (i + 1) = some a1) (hc : cf_13 N X a1 t = some (t', .inl (some (.int v)))) (hm : mf_78 N a1 s = some (s', some (.int v))) (kk : ∀ {h : zz_H}, kR h t' s' → zz_J zp_P zt_tf zt_fd X (d + 400) zm_law 652 [(0, .ref zz_out), (1, .ref 0), (2, .ref 61), (3, .int i)] [] h Q) : zz_J zp_P zt_tf zt_fd X (d + 400) zm_law 457 [(0, .ref zz_out), (1, .ref 0), (2, .ref 61), (3, .int i)] [] h Q := by
  refine zz_J.n 458 rfl rfl rfl ?_
  refine zz_J.n 459 rfl rfl rfl ?_
  refine zz_J.n 460 rfl rfl rfl ?_
  refine zz_J.c 461 (.int 1) rfl rfl rfl rfl ?_
  refine zz_J.n 462 rfl rfl rfl ?_
  refine zz_J.ai 463 rfl ((hx_ai (Nat.lt_irrefl _)).trans g1) rfl ?_
  refine zz_J.cv 466 (as := []) rfl rfl (hR.clO ko_0 (by decide) (by decide)) (by decide) (Nat.le_of_ble_eq_true rfl) (Nat.le_of_ble_eq_true rfl) rfl (Nat.le_of_ble_eq_true rfl) rfl ?_
  refine cr_13 (d := d + 399) (by omega) hR hc (fun h hR => ?_)
  show zz_J zp_P zt_tf zt_fd X (d + 400) zm_law 466 [(0, .ref zz_out), (1, .ref 0), (2, .ref 61), (3, .int i)] [.int v] h Q
  refine zz_J.n 467 rfl rfl rfl ?_
  refine zz_J.n 468 rfl rfl rfl ?_
  refine zz_J.n 469 rfl rfl rfl ?_
  refine zz_J.c 470 (.int 1) rfl rfl rfl rfl ?_
  refine zz_J.n 471 rfl rfl rfl ?_
  refine zz_J.ai 472 rfl ((hx_ai (Nat.lt_irrefl _)).trans g1) rfl ?_
  refine zz_J.cv 475 (as := [.int v]) rfl rfl (hR.clM rfl) (by decide) (Nat.le_of_ble_eq_true rfl) (Nat.le_of_ble_eq_true rfl) rfl (Nat.le_of_ble_eq_true rfl) rfl ?_
  have hE := mr_78 (X := X) (h := h) hR.big (d := d + 398) (Q := fun w h1 => w = some (.int v) ∧ h1 = mH h s') hm ⟨rfl, rfl⟩
  rw [hR.eqM] at hE
  refine zz_J.ofE hE ?_
  rintro w h1 ⟨rfl, rfl⟩
  have hR := hR.toM (s' := s')
  generalize mH h s' = h at hR ⊢
  show zz_J zp_P zt_tf zt_fd X (d + 400) zm_law 475 [(0, .ref zz_out), (1, .ref 0), (2, .ref 61), (3, .int i)] [.int v, .int v] h Q
  exact zz_J.b2 652 478 (A := v = v) rfl rfl (by decide) rfl rfl (fun _ => kk hR) (fun c => absurd rfl c)
theorem lw_12 {v : Int32} (hR : kR h t s) (g1 : hai X [] zz_out (i + 1) = some a1) (hc : cf_14 N X a1 t = some (t', .inl (some (.int v)))) (hm : mf_79 N a1 s = some (s', some (.int v))) (kk : ∀ {h : zz_H}, kR h t' s' → zz_J zp_P zt_tf zt_fd X (d + 400) zm_law 652 [(0, .ref zz_out), (1, .ref 0), (2, .ref 61), (3, .int i)] [] h Q) : zz_J zp_P zt_tf zt_fd X (d + 400) zm_law 480 [(0, .ref zz_out), (1, .ref 0), (2, .ref 61), (3, .int i)] [] h Q := by
  refine zz_J.n 481 rfl rfl rfl ?_
  refine zz_J.n 482 rfl rfl rfl ?_
  refine zz_J.n 483 rfl rfl rfl ?_
  refine zz_J.c 484 (.int 1) rfl rfl rfl rfl ?_
  refine zz_J.n 485 rfl rfl rfl ?_
  refine zz_J.ai 486 rfl ((hx_ai (Nat.lt_irrefl _)).trans g1) rfl ?_
  refine zz_J.cv 489 (as := []) rfl rfl (hR.clO ko_0 (by decide) (by decide)) (by decide) (Nat.le_of_ble_eq_true rfl) (Nat.le_of_ble_eq_true rfl) rfl (Nat.le_of_ble_eq_true rfl) rfl ?_
  refine cr_14 (d := d + 399) (by omega) hR hc (fun h hR => ?_)
  show zz_J zp_P zt_tf zt_fd X (d + 400) zm_law 489 [(0, .ref zz_out), (1, .ref 0), (2, .ref 61), (3, .int i)] [.int v] h Q
  refine zz_J.n 490 rfl rfl rfl ?_
  refine zz_J.n 491 rfl rfl rfl ?_
  refine zz_J.n 492 rfl rfl rfl ?_
  refine zz_J.c 493 (.int 1) rfl rfl rfl rfl ?_
  refine zz_J.n 494 rfl rfl rfl ?_
  refine zz_J.ai 495 rfl ((hx_ai (Nat.lt_irrefl _)).trans g1) rfl ?_
  refine zz_J.cv 498 (as := [.int v]) rfl rfl (hR.clM rfl) (by decide) (Nat.le_of_ble_eq_true rfl) (Nat.le_of_ble_eq_true rfl) rfl (Nat.le_of_ble_eq_true rfl) rfl ?_
  have hE := mr_79 (X := X) (h := h) hR.big (d := d + 398) (Q := fun w h1 => w = some (.int v) ∧ h1 = mH h s') hm ⟨rfl, rfl⟩
  rw [hR.eqM] at hE
  refine zz_J.ofE hE ?_
  rintro w h1 ⟨rfl, rfl⟩
  have hR := hR.toM (s' := s')
  generalize mH h s' = h at hR ⊢
  show zz_J zp_P zt_tf zt_fd X (d + 400) zm_law 498 [(0, .ref zz_out), (1, .ref 0), (2, .ref 61), (3, .int i)] [.int v, .int v] h Q
  exact zz_J.b2 652 501 (A := v = v) rfl rfl (by decide) rfl rfl (fun _ => kk hR) (fun c => absurd rfl c)
theorem lw_13 {v : Int32} (hR : kR h t s) (g1 : hai X [] zz_out (i + 1) = some a1) (g2 : hai X [] zz_out (i + 2) = some a2) (hc : cf_15 N X a1 a2 t = some (t', .inl (some (.int v)))) (hm : mf_80 N a1 a2 s = some (s', some (.int v))) (kk : ∀ {h : zz_H}, kR h t' s' → zz_J zp_P zt_tf zt_fd X (d + 400) zm_law 652 [(0, .ref zz_out), (1, .ref 0), (2, .ref 61), (3, .int i)] [] h Q) : zz_J zp_P zt_tf zt_fd X (d + 400) zm_law 503 [(0, .ref zz_out), (1, .ref 0), (2, .ref 61), (3, .int i)] [] h Q := by
  refine zz_J.n 504 rfl rfl rfl ?_
  refine zz_J.n 505 rfl rfl rfl ?_
  refine zz_J.n 506 rfl rfl rfl ?_
  refine zz_J.c 507 (.int 1) rfl rfl rfl rfl ?_
  refine zz_J.n 508 rfl rfl rfl ?_
  refine zz_J.ai 509 rfl ((hx_ai (Nat.lt_irrefl _)).trans g1) rfl ?_
  refine zz_J.n 510 rfl rfl rfl ?_
  refine zz_J.n 511 rfl rfl rfl ?_
  refine zz_J.c 512 (.int 2) rfl rfl rfl rfl ?_
  refine zz_J.n 513 rfl rfl rfl ?_
  refine zz_J.ai 514 rfl ((hx_ai (Nat.lt_irrefl _)).trans g2) rfl ?_
  refine zz_J.cv 517 (as := []) rfl rfl (hR.clO ko_0 (by decide) (by decide)) (by decide) (Nat.le_of_ble_eq_true rfl) (Nat.le_of_ble_eq_true rfl) rfl (Nat.le_of_ble_eq_true rfl) rfl ?_
  refine cr_15 (d := d + 399) (by omega) hR hc (fun h hR => ?_)
  show zz_J zp_P zt_tf zt_fd X (d + 400) zm_law 517 [(0, .ref zz_out), (1, .ref 0), (2, .ref 61), (3, .int i)] [.int v] h Q
  refine zz_J.n 518 rfl rfl rfl ?_
  refine zz_J.n 519 rfl rfl rfl ?_
  refine zz_J.n 520 rfl rfl rfl ?_
  refine zz_J.c 521 (.int 1) rfl rfl rfl rfl ?_
  refine zz_J.n 522 rfl rfl rfl ?_
  refine zz_J.ai 523 rfl ((hx_ai (Nat.lt_irrefl _)).trans g1) rfl ?_
  refine zz_J.n 524 rfl rfl rfl ?_
  refine zz_J.n 525 rfl rfl rfl ?_
  refine zz_J.c 526 (.int 2) rfl rfl rfl rfl ?_
  refine zz_J.n 527 rfl rfl rfl ?_
  refine zz_J.ai 528 rfl ((hx_ai (Nat.lt_irrefl _)).trans g2) rfl ?_
  refine zz_J.cv 531 (as := [.int v]) rfl rfl (hR.clM rfl) (by decide) (Nat.le_of_ble_eq_true rfl) (Nat.le_of_ble_eq_true rfl) rfl (Nat.le_of_ble_eq_true rfl) rfl ?_
  have hE := mr_80 (X := X) (h := h) hR.big (d := d + 397) (Q := fun w h1 => w = some (.int v) ∧ h1 = mH h s') hm ⟨rfl, rfl⟩
  rw [hR.eqM] at hE
  refine zz_J.ofE hE ?_
  rintro w h1 ⟨rfl, rfl⟩
  have hR := hR.toM (s' := s')
  generalize mH h s' = h at hR ⊢
  show zz_J zp_P zt_tf zt_fd X (d + 400) zm_law 531 [(0, .ref zz_out), (1, .ref 0), (2, .ref 61), (3, .int i)] [.int v, .int v] h Q
  exact zz_J.b2 652 534 (A := v = v) rfl rfl (by decide) rfl rfl (fun _ => kk hR) (fun c => absurd rfl c)
theorem lw_14 {v : Int32} (hR : kR h t s) (g1 : hai X [] zz_out (i + 1) = some a1) (g2 : hai X [] zz_out (i + 2) = some a2) (g3 : hai X [] zz_out (i + 3) = some a3) (hc : cf_16 N X a1 a2 a3 t = some (t', .inl (some (.int v)))) (hm : mf_81 N a1 a2 a3 s = some (s', some (.int v))) (kk : ∀ {h : zz_H}, kR h t' s' → zz_J zp_P zt_tf zt_fd X (d + 400) zm_law 652 [(0, .ref zz_out), (1, .ref 0), (2, .ref 61), (3, .int i)] [] h Q) : zz_J zp_P zt_tf zt_fd X (d + 400) zm_law 536 [(0, .ref zz_out), (1, .ref 0), (2, .ref 61), (3, .int i)] [] h Q := by
  refine zz_J.n 537 rfl rfl rfl ?_
  refine zz_J.n 538 rfl rfl rfl ?_
  refine zz_J.n 539 rfl rfl rfl ?_
  refine zz_J.c 540 (.int 1) rfl rfl rfl rfl ?_
  refine zz_J.n 541 rfl rfl rfl ?_
  refine zz_J.ai 542 rfl ((hx_ai (Nat.lt_irrefl _)).trans g1) rfl ?_
  refine zz_J.n 543 rfl rfl rfl ?_
  refine zz_J.n 544 rfl rfl rfl ?_
  refine zz_J.c 545 (.int 2) rfl rfl rfl rfl ?_
  refine zz_J.n 546 rfl rfl rfl ?_
  refine zz_J.ai 547 rfl ((hx_ai (Nat.lt_irrefl _)).trans g2) rfl ?_
  refine zz_J.n 548 rfl rfl rfl ?_
  refine zz_J.n 549 rfl rfl rfl ?_
  refine zz_J.c 550 (.int 3) rfl rfl rfl rfl ?_
  refine zz_J.n 551 rfl rfl rfl ?_
  refine zz_J.ai 552 rfl ((hx_ai (Nat.lt_irrefl _)).trans g3) rfl ?_
  refine zz_J.cv 555 (as := []) rfl rfl (hR.clO ko_0 (by decide) (by decide)) (by decide) (Nat.le_of_ble_eq_true rfl) (Nat.le_of_ble_eq_true rfl) rfl (Nat.le_of_ble_eq_true rfl) rfl ?_
  refine cr_16 (d := d + 399) (by omega) hR hc (fun h hR => ?_)
  show zz_J zp_P zt_tf zt_fd X (d + 400) zm_law 555 [(0, .ref zz_out), (1, .ref 0), (2, .ref 61), (3, .int i)] [.int v] h Q
  refine zz_J.n 556 rfl rfl rfl ?_
  refine zz_J.n 557 rfl rfl rfl ?_
  refine zz_J.n 558 rfl rfl rfl ?_
  refine zz_J.c 559 (.int 1) rfl rfl rfl rfl ?_
  refine zz_J.n 560 rfl rfl rfl ?_
  refine zz_J.ai 561 rfl ((hx_ai (Nat.lt_irrefl _)).trans g1) rfl ?_
  refine zz_J.n 562 rfl rfl rfl ?_
  refine zz_J.n 563 rfl rfl rfl ?_
  refine zz_J.c 564 (.int 2) rfl rfl rfl rfl ?_
  refine zz_J.n 565 rfl rfl rfl ?_
  refine zz_J.ai 566 rfl ((hx_ai (Nat.lt_irrefl _)).trans g2) rfl ?_
  refine zz_J.n 567 rfl rfl rfl ?_
  refine zz_J.n 568 rfl rfl rfl ?_
  refine zz_J.c 569 (.int 3) rfl rfl rfl rfl ?_
  refine zz_J.n 570 rfl rfl rfl ?_
  refine zz_J.ai 571 rfl ((hx_ai (Nat.lt_irrefl _)).trans g3) rfl ?_
  refine zz_J.cv 574 (as := [.int v]) rfl rfl (hR.clM rfl) (by decide) (Nat.le_of_ble_eq_true rfl) (Nat.le_of_ble_eq_true rfl) rfl (Nat.le_of_ble_eq_true rfl) rfl ?_
  have hE := mr_81 (X := X) (h := h) hR.big (d := d + 397) (Q := fun w h1 => w = some (.int v) ∧ h1 = mH h s') hm ⟨rfl, rfl⟩
  rw [hR.eqM] at hE
  refine zz_J.ofE hE ?_
  rintro w h1 ⟨rfl, rfl⟩
  have hR := hR.toM (s' := s')
  generalize mH h s' = h at hR ⊢
  show zz_J zp_P zt_tf zt_fd X (d + 400) zm_law 574 [(0, .ref zz_out), (1, .ref 0), (2, .ref 61), (3, .int i)] [.int v, .int v] h Q
  exact zz_J.b2 652 577 (A := v = v) rfl rfl (by decide) rfl rfl (fun _ => kk hR) (fun c => absurd rfl c)
theorem lw_15 {v : Int32} (hR : kR h t s) (g1 : hai X [] zz_out (i + 1) = some a1) (g2 : hai X [] zz_out (i + 2) = some a2) (hc : cf_17 N X a1 a2 t = some (t', .inl (some (.int v)))) (hm : mf_82 N a1 a2 s = some (s', some (.int v))) (kk : ∀ {h : zz_H}, kR h t' s' → zz_J zp_P zt_tf zt_fd X (d + 400) zm_law 652 [(0, .ref zz_out), (1, .ref 0), (2, .ref 61), (3, .int i)] [] h Q) : zz_J zp_P zt_tf zt_fd X (d + 400) zm_law 579 [(0, .ref zz_out), (1, .ref 0), (2, .ref 61), (3, .int i)] [] h Q := by
  refine zz_J.n 580 rfl rfl rfl ?_
  refine zz_J.n 581 rfl rfl rfl ?_
  refine zz_J.n 582 rfl rfl rfl ?_
  refine zz_J.c 583 (.int 1) rfl rfl rfl rfl ?_
  refine zz_J.n 584 rfl rfl rfl ?_
  refine zz_J.ai 585 rfl ((hx_ai (Nat.lt_irrefl _)).trans g1) rfl ?_
  refine zz_J.n 586 rfl rfl rfl ?_
  refine zz_J.n 587 rfl rfl rfl ?_
  refine zz_J.c 588 (.int 2) rfl rfl rfl rfl ?_
  refine zz_J.n 589 rfl rfl rfl ?_
  refine zz_J.ai 590 rfl ((hx_ai (Nat.lt_irrefl _)).trans g2) rfl ?_
  refine zz_J.cv 593 (as := []) rfl rfl (hR.clO ko_0 (by decide) (by decide)) (by decide) (Nat.le_of_ble_eq_true rfl) (Nat.le_of_ble_eq_true rfl) rfl (Nat.le_of_ble_eq_true rfl) rfl ?_
  refine cr_17 (d := d + 399) (by omega) hR hc (fun h hR => ?_)
  show zz_J zp_P zt_tf zt_fd X (d + 400) zm_law 593 [(0, .ref zz_out), (1, .ref 0), (2, .ref 61), (3, .int i)] [.int v] h Q
  refine zz_J.n 594 rfl rfl rfl ?_
  refine zz_J.n 595 rfl rfl rfl ?_
  refine zz_J.n 596 rfl rfl rfl ?_
  refine zz_J.c 597 (.int 1) rfl rfl rfl rfl ?_
  refine zz_J.n 598 rfl rfl rfl ?_
  refine zz_J.ai 599 rfl ((hx_ai (Nat.lt_irrefl _)).trans g1) rfl ?_
  refine zz_J.n 600 rfl rfl rfl ?_
  refine zz_J.n 601 rfl rfl rfl ?_
  refine zz_J.c 602 (.int 2) rfl rfl rfl rfl ?_
  refine zz_J.n 603 rfl rfl rfl ?_
  refine zz_J.ai 604 rfl ((hx_ai (Nat.lt_irrefl _)).trans g2) rfl ?_
  refine zz_J.cv 607 (as := [.int v]) rfl rfl (hR.clM rfl) (by decide) (Nat.le_of_ble_eq_true rfl) (Nat.le_of_ble_eq_true rfl) rfl (Nat.le_of_ble_eq_true rfl) rfl ?_
  have hE := mr_82 (X := X) (h := h) hR.big (d := d + 395) (Q := fun w h1 => w = some (.int v) ∧ h1 = mH h s') hm ⟨rfl, rfl⟩
  rw [hR.eqM] at hE
  refine zz_J.ofE hE ?_
  rintro w h1 ⟨rfl, rfl⟩
  have hR := hR.toM (s' := s')
  generalize mH h s' = h at hR ⊢
  show zz_J zp_P zt_tf zt_fd X (d + 400) zm_law 607 [(0, .ref zz_out), (1, .ref 0), (2, .ref 61), (3, .int i)] [.int v, .int v] h Q
  exact zz_J.b2 652 610 (A := v = v) rfl rfl (by decide) rfl rfl (fun _ => kk hR) (fun c => absurd rfl c)
theorem lw_16 {v : Int32} (hR : kR h t s)  (hc : cf_18 N X  t = some (t', .inl (some (.int v)))) (hm : mf_83 N  s = some (s', some (.int v))) (kk : ∀ {h : zz_H}, kR h t' s' → zz_J zp_P zt_tf zt_fd X (d + 400) zm_law 652 [(0, .ref zz_out), (1, .ref 0), (2, .ref 61), (3, .int i)] [] h Q) : zz_J zp_P zt_tf zt_fd X (d + 400) zm_law 612 [(0, .ref zz_out), (1, .ref 0), (2, .ref 61), (3, .int i)] [] h Q := by
  refine zz_J.n 613 rfl rfl rfl ?_
  refine zz_J.cv 616 (as := []) rfl rfl (hR.clO ko_0 (by decide) (by decide)) (by decide) (Nat.le_of_ble_eq_true rfl) (Nat.le_of_ble_eq_true rfl) rfl (Nat.le_of_ble_eq_true rfl) rfl ?_
  refine cr_18 (d := d + 399) (by omega) hR hc (fun h hR => ?_)
  show zz_J zp_P zt_tf zt_fd X (d + 400) zm_law 616 [(0, .ref zz_out), (1, .ref 0), (2, .ref 61), (3, .int i)] [.int v] h Q
  refine zz_J.n 617 rfl rfl rfl ?_
  refine zz_J.cv 620 (as := [.int v]) rfl rfl (hR.clM rfl) (by decide) (Nat.le_of_ble_eq_true rfl) (Nat.le_of_ble_eq_true rfl) rfl (Nat.le_of_ble_eq_true rfl) rfl ?_
  have hE := mr_83 (X := X) (h := h) hR.big (d := d + 395) (Q := fun w h1 => w = some (.int v) ∧ h1 = mH h s') hm ⟨rfl, rfl⟩
  rw [hR.eqM] at hE
  refine zz_J.ofE hE ?_
  rintro w h1 ⟨rfl, rfl⟩
  have hR := hR.toM (s' := s')
  generalize mH h s' = h at hR ⊢
  show zz_J zp_P zt_tf zt_fd X (d + 400) zm_law 620 [(0, .ref zz_out), (1, .ref 0), (2, .ref 61), (3, .int i)] [.int v, .int v] h Q
  exact zz_J.b2 652 623 (A := v = v) rfl rfl (by decide) rfl rfl (fun _ => kk hR) (fun c => absurd rfl c)
theorem lw_17 {v : Int32} (hR : kR h t s)  (hc : cf_19 N X  t = some (t', .inl (some (.int v)))) (hm : mf_85 N  s = some (s', some (.int v))) (kk : ∀ {h : zz_H}, kR h t' s' → zz_J zp_P zt_tf zt_fd X (d + 400) zm_law 652 [(0, .ref zz_out), (1, .ref 0), (2, .ref 61), (3, .int i)] [] h Q) : zz_J zp_P zt_tf zt_fd X (d + 400) zm_law 625 [(0, .ref zz_out), (1, .ref 0), (2, .ref 61), (3, .int i)] [] h Q := by
  refine zz_J.n 626 rfl rfl rfl ?_
  refine zz_J.cv 629 (as := []) rfl rfl (hR.clO ko_0 (by decide) (by decide)) (by decide) (Nat.le_of_ble_eq_true rfl) (Nat.le_of_ble_eq_true rfl) rfl (Nat.le_of_ble_eq_true rfl) rfl ?_
  refine cr_19 (d := d + 399) (by omega) hR hc (fun h hR => ?_)
  show zz_J zp_P zt_tf zt_fd X (d + 400) zm_law 629 [(0, .ref zz_out), (1, .ref 0), (2, .ref 61), (3, .int i)] [.int v] h Q
  refine zz_J.n 630 rfl rfl rfl ?_
  refine zz_J.cv 633 (as := [.int v]) rfl rfl (hR.clM rfl) (by decide) (Nat.le_of_ble_eq_true rfl) (Nat.le_of_ble_eq_true rfl) rfl (Nat.le_of_ble_eq_true rfl) rfl ?_
  have hE := mr_85 (X := X) (h := h) hR.big (d := d + 395) (Q := fun w h1 => w = some (.int v) ∧ h1 = mH h s') hm ⟨rfl, rfl⟩
  rw [hR.eqM] at hE
  refine zz_J.ofE hE ?_
  rintro w h1 ⟨rfl, rfl⟩
  have hR := hR.toM (s' := s')
  generalize mH h s' = h at hR ⊢
  show zz_J zp_P zt_tf zt_fd X (d + 400) zm_law 633 [(0, .ref zz_out), (1, .ref 0), (2, .ref 61), (3, .int i)] [.int v, .int v] h Q
  exact zz_J.b2 652 636 (A := v = v) rfl rfl (by decide) rfl rfl (fun _ => kk hR) (fun c => absurd rfl c)
theorem lw_18 {v : Int64} (hR : kR h t s)  (hc : cf_20 N X  t = some (t', .inl (some (.long v)))) (hm : mf_86 N  s = some (s', some (.long v))) (kk : ∀ {h : zz_H}, kR h t' s' → zz_J zp_P zt_tf zt_fd X (d + 400) zm_law 652 [(0, .ref zz_out), (1, .ref 0), (2, .ref 61), (3, .int i)] [] h Q) : zz_J zp_P zt_tf zt_fd X (d + 400) zm_law 638 [(0, .ref zz_out), (1, .ref 0), (2, .ref 61), (3, .int i)] [] h Q := by
  refine zz_J.n 639 rfl rfl rfl ?_
  refine zz_J.cv 642 (as := []) rfl rfl (hR.clO ko_0 (by decide) (by decide)) (by decide) (Nat.le_of_ble_eq_true rfl) (Nat.le_of_ble_eq_true rfl) rfl (Nat.le_of_ble_eq_true rfl) rfl ?_
  refine cr_20 (d := d + 399) (by omega) hR hc (fun h hR => ?_)
  show zz_J zp_P zt_tf zt_fd X (d + 400) zm_law 642 [(0, .ref zz_out), (1, .ref 0), (2, .ref 61), (3, .int i)] [.long v] h Q
  refine zz_J.n 643 rfl rfl rfl ?_
  refine zz_J.cv 646 (as := [.long v]) rfl rfl (hR.clM rfl) (by decide) (Nat.le_of_ble_eq_true rfl) (Nat.le_of_ble_eq_true rfl) rfl (Nat.le_of_ble_eq_true rfl) rfl ?_
  have hE := mr_86 (X := X) (h := h) hR.big (d := d + 395) (Q := fun w h1 => w = some (.long v) ∧ h1 = mH h s') hm ⟨rfl, rfl⟩
  rw [hR.eqM] at hE
  refine zz_J.ofE hE ?_
  rintro w h1 ⟨rfl, rfl⟩
  have hR := hR.toM (s' := s')
  generalize mH h s' = h at hR ⊢
  show zz_J zp_P zt_tf zt_fd X (d + 400) zm_law 646 [(0, .ref zz_out), (1, .ref 0), (2, .ref 61), (3, .int i)] [.long v, .long v] h Q
  refine zz_J.n 647 rfl rfl rfl ?_
  exact zz_J.b1 652 650 (A := lg_cmp v v = 0) rfl rfl (by decide) rfl rfl (fun _ => kk hR) (fun c => absurd (lg_cmp_self v) c)
end LW
/-- a call, and what both answer (X: the cells outside; N: how far loops may go) -/
def lwC (N : Nat) (X : Nat → Option zz_C) (op : Nat) (a1 a2 a3 a4 a5 : Int32) (t : cS) (s : mS) (t' : cS) (s' : mS) : Prop := match op with
  | 0 => ∃ v : Int32, cf_1 N X a1 a2 a3 a4 a5 t = some (t', .inl (some (.int v))) ∧ mf_57 N a1 a2 a3 a4 a5 s = some (s', some (.int v))
  | 1 => ∃ v : Int32, cf_3 N X a1 t = some (t', .inl (some (.int v))) ∧ mf_59 N a1 s = some (s', some (.int v))
  | 2 => ∃ v : Int32, cf_4 N X a1 t = some (t', .inl (some (.int v))) ∧ mf_65 N a1 s = some (s', some (.int v))
  | 3 => ∃ v : Int32, cf_5 N X a1 a2 t = some (t', .inl (some (.int v))) ∧ mf_67 N a1 a2 s = some (s', some (.int v))
  | 4 => ∃ v : Int32, cf_6 N X a1 a2 a3 t = some (t', .inl (some (.int v))) ∧ mf_68 N a1 a2 a3 s = some (s', some (.int v))
  | 5 => ∃ v : Int32, cf_7 N X a1 t = some (t', .inl (some (.int v))) ∧ mf_69 N a1 s = some (s', some (.int v))
  | 6 => ∃ v : Int32, cf_8 N X a1 t = some (t', .inl (some (.int v))) ∧ mf_70 N a1 s = some (s', some (.int v))
  | 7 => ∃ v : Int32, cf_9 N X  t = some (t', .inl (some (.int v))) ∧ mf_71 N  s = some (s', some (.int v))
  | 8 => ∃ v : Int32, cf_10 N X a1 t = some (t', .inl (some (.int v))) ∧ mf_72 N a1 s = some (s', some (.int v))
  | 9 => ∃ v : Int32, cf_11 N X a1 a2 t = some (t', .inl (some (.int v))) ∧ mf_74 N a1 a2 s = some (s', some (.int v))
  | 10 => ∃ v : Int32, cf_12 N X a1 a2 t = some (t', .inl (some (.int v))) ∧ mf_76 N a1 a2 s = some (s', some (.int v))
  | 11 => ∃ v : Int32, cf_13 N X a1 t = some (t', .inl (some (.int v))) ∧ mf_78 N a1 s = some (s', some (.int v))
  | 12 => ∃ v : Int32, cf_14 N X a1 t = some (t', .inl (some (.int v))) ∧ mf_79 N a1 s = some (s', some (.int v))
  | 13 => ∃ v : Int32, cf_15 N X a1 a2 t = some (t', .inl (some (.int v))) ∧ mf_80 N a1 a2 s = some (s', some (.int v))
  | 14 => ∃ v : Int32, cf_16 N X a1 a2 a3 t = some (t', .inl (some (.int v))) ∧ mf_81 N a1 a2 a3 s = some (s', some (.int v))
  | 15 => ∃ v : Int32, cf_17 N X a1 a2 t = some (t', .inl (some (.int v))) ∧ mf_82 N a1 a2 s = some (s', some (.int v))
  | 16 => ∃ v : Int32, cf_18 N X  t = some (t', .inl (some (.int v))) ∧ mf_83 N  s = some (s', some (.int v))
  | 17 => ∃ v : Int32, cf_19 N X  t = some (t', .inl (some (.int v))) ∧ mf_85 N  s = some (s', some (.int v))
  | 18 => ∃ v : Int64, cf_20 N X  t = some (t', .inl (some (.long v))) ∧ mf_86 N  s = some (s', some (.long v))
  | _ => t' = t ∧ s' = s
section LX
variable {X : Nat → Option zz_C} {d N : Nat} {Q : zz_O → zz_H → Prop}
/-- one round of the law's loop, from the switch on -/
theorem lw_op {h : zz_H} {t t' : cS} {s s' : mS} {i op a1 a2 a3 a4 a5 : Int32} (hR : kR h t s) (g1 : hai X [] zz_out (i + 1) = some a1) (g2 : hai X [] zz_out (i + 2) = some a2) (g3 : hai X [] zz_out (i + 3) = some a3) (g4 : hai X [] zz_out (i + 4) = some a4) (g5 : hai X [] zz_out (i + 5) = some a5) (hop : 0 ≤ op.toInt) (hC : lwC N X op.toInt.toNat a1 a2 a3 a4 a5 t s t' s') (kk : ∀ {h : zz_H}, kR h t' s' → zz_J zp_P zt_tf zt_fd X (d + 400) zm_law 652 [(0, .ref zz_out), (1, .ref 0), (2, .ref 61), (3, .int i)] [] h Q) : zz_J zp_P zt_tf zt_fd X (d + 400) zm_law 33 [(0, .ref zz_out), (1, .ref 0), (2, .ref 61), (3, .int i)] [.int op] h Q := by
  by_cases hx : op.toInt < 0 ∨ 18 < op.toInt
  · refine zz_J.td 652 rfl hx (by decide) rfl ?_
    have : ∃ k, op.toInt.toNat = k + 19 := ⟨op.toInt.toNat - 19, by omega⟩
    obtain ⟨k, hk⟩ := this
    rw [hk] at hC
    obtain ⟨rfl, rfl⟩ := hC
    exact kk hR
  · have hv : op.toInt = 0 ∨ op.toInt = 1 ∨ op.toInt = 2 ∨ op.toInt = 3 ∨ op.toInt = 4 ∨ op.toInt = 5 ∨ op.toInt = 6 ∨ op.toInt = 7 ∨ op.toInt = 8 ∨ op.toInt = 9 ∨ op.toInt = 10 ∨ op.toInt = 11 ∨ op.toInt = 12 ∨ op.toInt = 13 ∨ op.toInt = 14 ∨ op.toInt = 15 ∨ op.toInt = 16 ∨ op.toInt = 17 ∨ op.toInt = 18 := by omega
    rcases hv with hv | hv | hv | hv | hv | hv | hv | hv | hv | hv | hv | hv | hv | hv | hv | hv | hv | hv | hv
    · have e : op = 0 := Int32.toInt_inj.mp (hv.trans rfl)
      rw [hv] at hC
      obtain ⟨v, hc, hm⟩ := hC
      exact zz_J.tv 124 rfl e rfl (lw_0 hR g1 g2 g3 g4 g5 hc hm kk)
    · have e : op = 1 := Int32.toInt_inj.mp (hv.trans rfl)
      rw [hv] at hC
      obtain ⟨v, hc, hm⟩ := hC
      exact zz_J.tv 187 rfl e rfl (lw_1 hR g1 hc hm kk)
    · have e : op = 2 := Int32.toInt_inj.mp (hv.trans rfl)
      rw [hv] at hC
      obtain ⟨v, hc, hm⟩ := hC
      exact zz_J.tv 210 rfl e rfl (lw_2 hR g1 hc hm kk)
    · have e : op = 3 := Int32.toInt_inj.mp (hv.trans rfl)
      rw [hv] at hC
      obtain ⟨v, hc, hm⟩ := hC
      exact zz_J.tv 233 rfl e rfl (lw_3 hR g1 g2 hc hm kk)
    · have e : op = 4 := Int32.toInt_inj.mp (hv.trans rfl)
      rw [hv] at hC
      obtain ⟨v, hc, hm⟩ := hC
      exact zz_J.tv 266 rfl e rfl (lw_4 hR g1 g2 g3 hc hm kk)
    · have e : op = 5 := Int32.toInt_inj.mp (hv.trans rfl)
      rw [hv] at hC
      obtain ⟨v, hc, hm⟩ := hC
      exact zz_J.tv 309 rfl e rfl (lw_5 hR g1 hc hm kk)
    · have e : op = 6 := Int32.toInt_inj.mp (hv.trans rfl)
      rw [hv] at hC
      obtain ⟨v, hc, hm⟩ := hC
      exact zz_J.tv 332 rfl e rfl (lw_6 hR g1 hc hm kk)
    · have e : op = 7 := Int32.toInt_inj.mp (hv.trans rfl)
      rw [hv] at hC
      obtain ⟨v, hc, hm⟩ := hC
      exact zz_J.tv 355 rfl e rfl (lw_7 hR  hc hm kk)
    · have e : op = 8 := Int32.toInt_inj.mp (hv.trans rfl)
      rw [hv] at hC
      obtain ⟨v, hc, hm⟩ := hC
      exact zz_J.tv 368 rfl e rfl (lw_8 hR g1 hc hm kk)
    · have e : op = 9 := Int32.toInt_inj.mp (hv.trans rfl)
      rw [hv] at hC
      obtain ⟨v, hc, hm⟩ := hC
      exact zz_J.tv 391 rfl e rfl (lw_9 hR g1 g2 hc hm kk)
    · have e : op = 10 := Int32.toInt_inj.mp (hv.trans rfl)
      rw [hv] at hC
      obtain ⟨v, hc, hm⟩ := hC
      exact zz_J.tv 424 rfl e rfl (lw_10 hR g1 g2 hc hm kk)
    · have e : op = 11 := Int32.toInt_inj.mp (hv.trans rfl)
      rw [hv] at hC
      obtain ⟨v, hc, hm⟩ := hC
      exact zz_J.tv 457 rfl e rfl (lw_11 hR g1 hc hm kk)
    · have e : op = 12 := Int32.toInt_inj.mp (hv.trans rfl)
      rw [hv] at hC
      obtain ⟨v, hc, hm⟩ := hC
      exact zz_J.tv 480 rfl e rfl (lw_12 hR g1 hc hm kk)
    · have e : op = 13 := Int32.toInt_inj.mp (hv.trans rfl)
      rw [hv] at hC
      obtain ⟨v, hc, hm⟩ := hC
      exact zz_J.tv 503 rfl e rfl (lw_13 hR g1 g2 hc hm kk)
    · have e : op = 14 := Int32.toInt_inj.mp (hv.trans rfl)
      rw [hv] at hC
      obtain ⟨v, hc, hm⟩ := hC
      exact zz_J.tv 536 rfl e rfl (lw_14 hR g1 g2 g3 hc hm kk)
    · have e : op = 15 := Int32.toInt_inj.mp (hv.trans rfl)
      rw [hv] at hC
      obtain ⟨v, hc, hm⟩ := hC
      exact zz_J.tv 579 rfl e rfl (lw_15 hR g1 g2 hc hm kk)
    · have e : op = 16 := Int32.toInt_inj.mp (hv.trans rfl)
      rw [hv] at hC
      obtain ⟨v, hc, hm⟩ := hC
      exact zz_J.tv 612 rfl e rfl (lw_16 hR  hc hm kk)
    · have e : op = 17 := Int32.toInt_inj.mp (hv.trans rfl)
      rw [hv] at hC
      obtain ⟨v, hc, hm⟩ := hC
      exact zz_J.tv 625 rfl e rfl (lw_17 hR  hc hm kk)
    · have e : op = 18 := Int32.toInt_inj.mp (hv.trans rfl)
      rw [hv] at hC
      obtain ⟨v, hc, hm⟩ := hC
      exact zz_J.tv 638 rfl e rfl (lw_18 hR  hc hm kk)
end LX
end
-- ### 41.loop.lean.txt
section
/-! ===== the law's loop, out of one step of both states ===== -/
section LY
variable {X : Nat → Option zz_C} {d N L : Nat} {xs : Nat → Int32}
theorem i32_and31 (x : Int32) : 0 ≤ (x &&& 31).toInt ∧ (x &&& 31).toInt < 32 := by
  have h : (x &&& 31).toBitVec.toNat ≤ 31 := by
    rw [Int32.toBitVec_and, BitVec.toNat_and]
    exact Nat.and_le_right
  have e : (x &&& 31).toInt = ((x &&& 31).toBitVec.toNat : Int) := by
    show (x &&& 31).toBitVec.toInt = _
    rw [BitVec.toInt_eq_toNat_of_lt (by omega)]
  omega
theorem lw_len (hX : X 0 = some (.inl (0, L, .inl xs))) : hlen X [] zz_out = some (Int32.ofNat L) := by
  unfold hlen zz_rd
  rw [if_neg (Nat.lt_irrefl _), Nat.sub_self, hX]
  dsimp only
  rw [if_pos (Or.inl (by decide))]
theorem i32_nat {m : Nat} (hm : m ≤ 100000) : (Int32.ofNat m).toInt = (m : Int) := Int32.toInt_ofNat_of_lt (by omega)
theorem lw_at (hX : X 0 = some (.inl (0, L, .inl xs))) {m : Nat} (hm : m < L) (hL : L ≤ 3072) : hai X [] zz_out (Int32.ofNat m) = some (xs m) := by
  have e : (Int32.ofNat m).toNatClampNeg = m := by
    show (Int32.ofNat m).toInt.toNat = m
    rw [i32_nat (by omega)]
    rfl
  have hq : ¬ (Int32.ofNat m < 0 ∨ L ≤ m) := fun q => by
    rcases q with q | q
    · have := Int32.lt_iff_toInt_lt.mp q
      rw [i32_nat (by omega)] at this
      have h0 : (0 : Int32).toInt = 0 := rfl
      omega
    · omega
  unfold hai zz_rd
  rw [if_neg (Nat.lt_irrefl _), Nat.sub_self, hX]
  dsimp only
  rw [e, if_pos ⟨rfl, hq⟩]
theorem i32_add {m k : Nat} : Int32.ofNat m + Int32.ofNat k = Int32.ofNat (m + k) := (Int32.ofNat_add m k).symm
set_option maxHeartbeats 1000000 in
theorem lw_loop (hX : X 0 = some (.inl (0, L, .inl xs))) (hL : L ≤ 3072) (Inv : Nat → cS → mS → Prop) (hstep : ∀ (n : Nat) (t : cS) (s : mS) (op a1 a2 a3 a4 a5 : Int32), 0 ≤ op.toInt → op.toInt < 32 → Inv (n + 1) t s → ∃ t' s', lwC N X op.toInt.toNat a1 a2 a3 a4 a5 t s t' s' ∧ Inv n t' s') :
    ∀ (n k : Nat) (t : cS) (s : mS) (h : zz_H), kR h t s → Inv n t s → L < 6 * k + 6 * n + 6 → 6 * k ≤ L + 6 → zz_J zp_P zt_tf zt_fd X (d + 400) zm_law 18 [(0, .ref zz_out), (1, .ref 0), (2, .ref 61), (3, .int (Int32.ofNat (6 * k)))] [] h (fun o h => o = .inl (some (.int 1)) ∧ ∃ n t s, kR h t s ∧ Inv n t s) := by
  intro n
  induction n with
  | zero =>
    intro k t s h hR hI hn hk
    refine zz_J.n 19 rfl rfl rfl ?_
    refine zz_J.n 20 rfl rfl rfl ?_
    refine zz_J.ln 21 rfl ((hx_ln (Nat.lt_irrefl _)).trans (lw_len hX)) rfl ?_
    refine zz_J.c 23 (.int 6) rfl rfl rfl rfl ?_
    refine zz_J.n 24 rfl rfl rfl ?_
    refine zz_J.b2 658 27 (A := Int32.ofNat L - 6 < Int32.ofNat (6 * k)) rfl rfl (by decide) rfl rfl (fun _ => ?_) (fun c => absurd ?_ c)
    · refine zz_J.c 659 (.int 1) rfl rfl rfl rfl ?_
      refine zz_J.ret rfl rfl rfl ?_
      exact ⟨rfl, 0, t, s, hR, hI⟩
    · rw [Int32.lt_iff_toInt_lt, Int32.toInt_sub, i32_nat (by omega), i32_nat (by omega)]
      show Int.bmod ((L : Int) - 6) (2 ^ 32) < _
      rw [Int.bmod_eq_of_le (by omega) (by omega)]
      omega
  | succ n ih =>
    intro k t s h hR hI hn hk
    refine zz_J.n 19 rfl rfl rfl ?_
    refine zz_J.n 20 rfl rfl rfl ?_
    refine zz_J.ln 21 rfl ((hx_ln (Nat.lt_irrefl _)).trans (lw_len hX)) rfl ?_
    refine zz_J.c 23 (.int 6) rfl rfl rfl rfl ?_
    refine zz_J.n 24 rfl rfl rfl ?_
    refine zz_J.b2 658 27 (A := Int32.ofNat L - 6 < Int32.ofNat (6 * k)) rfl rfl (by decide) rfl rfl (fun _ => ?_) (fun c => ?_)
    · refine zz_J.c 659 (.int 1) rfl rfl rfl rfl ?_
      refine zz_J.ret rfl rfl rfl ?_
      exact ⟨rfl, n + 1, t, s, hR, hI⟩
    · have hk6 : 6 * k + 6 ≤ L := by
        rw [Int32.lt_iff_toInt_lt, Int32.toInt_sub, i32_nat (by omega), i32_nat (by omega)] at c
        have c : ¬ Int.bmod ((L : Int) - 6) (2 ^ 32) < ((6 * k : Nat) : Int) := c
        rw [Int.bmod_eq_of_le (by omega) (by omega)] at c
        omega
      refine zz_J.n 28 rfl rfl rfl ?_
      refine zz_J.n 29 rfl rfl rfl ?_
      refine zz_J.ai 30 rfl ((hx_ai (Nat.lt_irrefl _)).trans (lw_at hX (m := 6 * k) (by omega) hL)) rfl ?_
      refine zz_J.c 32 (.int 31) rfl rfl rfl rfl ?_
      refine zz_J.n 33 rfl rfl rfl ?_
      obtain ⟨b1, b2⟩ := i32_and31 (xs (6 * k))
      obtain ⟨t', s', hC, hI'⟩ := hstep n t s (xs (6 * k) &&& 31) (xs (6 * k + 1)) (xs (6 * k + 2)) (xs (6 * k + 3)) (xs (6 * k + 4)) (xs (6 * k + 5)) b1 b2 hI
      refine lw_op hR ((congrArg _ i32_add).trans (lw_at hX (m := 6 * k + 1) (by omega) hL)) ((congrArg _ i32_add).trans (lw_at hX (m := 6 * k + 2) (by omega) hL)) ((congrArg _ i32_add).trans (lw_at hX (m := 6 * k + 3) (by omega) hL)) ((congrArg _ i32_add).trans (lw_at hX (m := 6 * k + 4) (by omega) hL)) ((congrArg _ i32_add).trans (lw_at hX (m := 6 * k + 5) (by omega) hL)) b1 hC (fun {h} hR' => ?_)
      refine zz_J.n 655 rfl rfl rfl ?_
      refine zz_J.n 18 rfl rfl rfl ?_
      have e : Int32.ofNat (6 * k) + Int32.ofInt 6 = Int32.ofNat (6 * (k + 1)) := (i32_add (m := 6 * k) (k := 6)).trans (by rw [Nat.mul_add])
      have := ih (k + 1) t' s' h hR' hI' (by omega) (by omega)
      rw [← e] at this
      exact zz_J.weak this rfl ⟨rfl, rfl, rfl, rfl, trivial⟩
end LY
end
-- ### 42.fresh.lean.txt
section
def zv_x : zz_H := [.inr (12, [.ref 1, .int 0, .ref 2, .ref 12, .ref 21, .int (-1), .int (-1), .ref 30, .ref 41, .int 0, .ref 42, .ref 45, .ref 48, .ref 49]),
  .inl (2, 320, .inl (fun _ => 0)),
  .inr (5, [.ref 3, .null, .int 0, .ref 7, .int 0, .ref 8, .ref 9, .ref 10, .ref 11, .int 0, .int 0, .int 0]),
  .inr (10, [.ref 4, .ref 5, .ref 6, .int 0, .int 0, .int 0, .int 0, .long 0]),
  .inl (0, 32, .inl (fun _ => 0)),
  .inl (0, 32, .inl (fun _ => 0)),
  .inl (1, 32, .inr (.inl (fun _ => 0))),
  .inl (1, 14, .inr (.inl (fun _ => 0))),
  .inl (0, 8, .inl (fun _ => 0)),
  .inl (1, 8, .inr (.inl (fun _ => 0))),
  .inl (0, 8, .inl (fun _ => 0)),
  .inl (0, 8, .inl (fun _ => 0)),
  .inr (6, [.ref 13, .ref 14, .ref 15, .int 0, .int 0, .ref 16, .ref 17, .ref 18, .ref 19, .ref 20]),
  .inl (0, 32, .inl (fun _ => 0)),
  .inl (0, 32, .inl (fun _ => 0)),
  .inl (0, 32, .inl (fun _ => 0)),
  .inl (1, 12, .inr (.inl (fun _ => 0))),
  .inl (0, 12, .inl (fun _ => 0)),
  .inl (0, 12, .inl (fun _ => 0)),
  .inl (0, 12, .inl (fun _ => 0)),
  .inl (0, 12, .inl (fun _ => 0)),
  .inr (6, [.ref 22, .ref 23, .ref 24, .int 0, .int 0, .ref 25, .ref 26, .ref 27, .ref 28, .ref 29]),
  .inl (0, 32, .inl (fun _ => 0)),
  .inl (0, 32, .inl (fun _ => 0)),
  .inl (0, 32, .inl (fun _ => 0)),
  .inl (1, 12, .inr (.inl (fun _ => 0))),
  .inl (0, 12, .inl (fun _ => 0)),
  .inl (0, 12, .inl (fun _ => 0)),
  .inl (0, 12, .inl (fun _ => 0)),
  .inl (0, 12, .inl (fun _ => 0)),
  .inr (7, [.ref 31, .ref 40, .int 0]),
  .inl (5, 8, .inr (.inr (.inr (.inr (fun i => if i < 8 then some (32 + i) else none))))),
  .inl (0, 4, .inl (fun _ => 0)),
  .inl (0, 4, .inl (fun _ => 0)),
  .inl (0, 4, .inl (fun _ => 0)),
  .inl (0, 4, .inl (fun _ => 0)),
  .inl (0, 4, .inl (fun _ => 0)),
  .inl (0, 4, .inl (fun _ => 0)),
  .inl (0, 4, .inl (fun _ => 0)),
  .inl (0, 4, .inl (fun _ => 0)),
  .inl (0, 8, .inl (fun _ => 0)),
  .inl (4, 6, .inr (.inr (.inr (.inr (fun _ => none))))),
  .inr (2, [.ref 43, .int 0, .ref 44, .int 0]),
  .inl (1, 128, .inr (.inl (fun _ => 0))),
  .inl (1, 32, .inr (.inl (fun _ => 0))),
  .inr (4, [.ref 46, .int 0, .ref 47]),
  .inl (2, 64, .inl (fun _ => 0)),
  .inl (2, 10, .inl (fun _ => 0)),
  .inr (9, [.int 0, .int 0, .int 0, .int 0, .int 0, .int 0, .int 0, .int (-1), .int 0]),
  .inr (3, [.ref 42, .ref 45, .ref 48, .ref 58, .ref 59, .ref 50, .ref 51, .ref 52, .int 0, .ref 53, .ref 54, .int 0, .ref 55, .ref 56, .ref 57, .int 0, .null, .int 0, .int 0]),
  .inl (1, 8, .inr (.inl (fun _ => 0))),
  .inl (3, 8, .inl (fun _ => 0)),
  .inl (1, 32, .inr (.inl (fun _ => 0))),
  .inl (0, 10, .inl (fun _ => 0)),
  .inl (0, 10, .inl (fun _ => 0)),
  .inl (0, 8, .inl (fun _ => 0)),
  .inl (0, 8, .inl (fun _ => 0)),
  .inl (0, 8, .inl (fun _ => 0)),
  .inr (8, [.ref 42, .int 0]),
  .inr (1, [.ref 42, .ref 60]),
  .inl (0, 64, .inl (fun _ => 0))]
def zv_p : Nat := 61
abbrev zv_L : List (Nat × Value) := [(3, .int 0), (2, .ref 61), (1, .ref 0), (0, .ref zz_out)]
set_option maxRecDepth 100000 in
theorem zv_1 : (fun X : Nat → Option zz_C => zz_run zp_P zt_tf zt_fd X 400 999 zm_0 0 [(0, .ref 0)] [] [.inr (12, zt_fd 12)]) = (fun _ => some (.inl none, zv_x)) := by rfl
def zv_m0 : zz_H := [.inr (12, [.ref 1, .int 0, .ref 2, .ref 12, .ref 21, .int (-1), .int (-1), .ref 30, .ref 41, .int 0, .ref 42, .ref 45, .ref 48, .ref 49]),
  .inl (2, 320, .inl (fun _ => 0)),
  .inr (5, [.ref 3, .null, .int 0, .ref 7, .int 0, .ref 8, .ref 9, .ref 10, .ref 11, .int 0, .int 0, .int 0]),
  .inr (10, [.ref 4, .ref 5, .ref 6, .int 0, .int 0, .int 0, .int 0, .long 0]),
  .inl (0, 32, .inl (fun _ => 0)),
  .inl (0, 32, .inl (fun _ => 0)),
  .inl (1, 32, .inr (.inl (fun _ => 0))),
  .inl (1, 14, .inr (.inl (fun _ => 0))),
  .inl (0, 8, .inl (fun _ => 0)),
  .inl (1, 8, .inr (.inl (fun _ => 0))),
  .inl (0, 8, .inl (fun _ => 0)),
  .inl (0, 8, .inl (fun _ => 0)),
  .inr (6, [.ref 13, .ref 14, .ref 15, .int 0, .int 0, .ref 16, .ref 17, .ref 18, .ref 19, .ref 20]),
  .inl (0, 32, .inl (fun _ => 0)),
  .inl (0, 32, .inl (fun _ => 0)),
  .inl (0, 32, .inl (fun _ => 0)),
  .inl (1, 12, .inr (.inl (fun _ => 0))),
  .inl (0, 12, .inl (fun _ => 0)),
  .inl (0, 12, .inl (fun _ => 0)),
  .inl (0, 12, .inl (fun _ => 0)),
  .inl (0, 12, .inl (fun _ => 0)),
  .inr (6, [.ref 22, .ref 23, .ref 24, .int 0, .int 0, .ref 25, .ref 26, .ref 27, .ref 28, .ref 29]),
  .inl (0, 32, .inl (fun _ => 0)),
  .inl (0, 32, .inl (fun _ => 0)),
  .inl (0, 32, .inl (fun _ => 0)),
  .inl (1, 12, .inr (.inl (fun _ => 0))),
  .inl (0, 12, .inl (fun _ => 0)),
  .inl (0, 12, .inl (fun _ => 0)),
  .inl (0, 12, .inl (fun _ => 0)),
  .inl (0, 12, .inl (fun _ => 0)),
  .inr (7, [.ref 31, .ref 40, .int 0]),
  .inl (5, 8, .inr (.inr (.inr (.inr (fun i => if i < 8 then some (32 + i) else none))))),
  .inl (0, 4, .inl (fun _ => 0)),
  .inl (0, 4, .inl (fun _ => 0)),
  .inl (0, 4, .inl (fun _ => 0)),
  .inl (0, 4, .inl (fun _ => 0)),
  .inl (0, 4, .inl (fun _ => 0)),
  .inl (0, 4, .inl (fun _ => 0)),
  .inl (0, 4, .inl (fun _ => 0)),
  .inl (0, 4, .inl (fun _ => 0)),
  .inl (0, 8, .inl (fun _ => 0)),
  .inl (4, 6, .inr (.inr (.inr (.inr (fun _ => none))))),
  .inr (2, [.ref 43, .int 0, .ref 44, .int 0]),
  .inl (1, 128, .inr (.inl (fun _ => 0))),
  .inl (1, 32, .inr (.inl (fun _ => 0))),
  .inr (4, [.ref 46, .int 0, .ref 47]),
  .inl (2, 64, .inl (fun _ => 0)),
  .inl (2, 10, .inl (fun _ => 0)),
  .inr (9, [.int 0, .int 0, .int 0, .int 0, .int 0, .int 0, .int 0, .int (-1), .int 0]),
  .inr (3, [.ref 42, .ref 45, .ref 48, .ref 58, .ref 59, .ref 50, .ref 51, .ref 52, .int 0, .ref 53, .ref 54, .int 0, .ref 55, .ref 56, .ref 57, .int 0, .null, .int 0, .int 0]),
  .inl (1, 8, .inr (.inl (fun _ => 0))),
  .inl (3, 8, .inl (fun _ => 0)),
  .inl (1, 32, .inr (.inl (fun _ => 0))),
  .inl (0, 10, .inl (fun _ => 0)),
  .inl (0, 10, .inl (fun _ => 0)),
  .inl (0, 8, .inl (fun _ => 0)),
  .inl (0, 8, .inl (fun _ => 0)),
  .inl (0, 8, .inl (fun _ => 0)),
  .inr (8, [.ref 42, .int 0]),
  .inr (1, [.ref 42, .ref 60]),
  .inl (0, 64, .inl (fun _ => 0)),
  .inr (13, [.null, .null, .null, .int 0, .int 0, .int 0, .int 0, .long 0, .int 0, .int 0, .int 0, .int 0, .int 0, .int 0, .int 0, .int 0, .null, .null, .null, .null, .null, .null, .int 0, .null, .null, .null, .null, .null, .int 0, .int 0, .null, .null, .null, .null, .null, .null, .null, .int 0, .null, .null, .null, .null, .null, .null, .int 0, .int 0, .int 0, .null, .int 0, .null, .null, .int 0, .null, .null, .null, .int 0, .int 0, .int 0, .null, .null, .int 0, .int 0, .int 0, .int 0, .int 0, .int 0, .int 0, .int 0, .int 0, .int 0, .int 0, .null, .null, .int 0, .null, .null, .null, .null, .null, .int 0, .null, .null, .null, .null, .null, .null, .null, .int 0, .int 0, .long 0])]
def zv_m1 : zz_H := [.inr (12, [.ref 1, .int 0, .ref 2, .ref 12, .ref 21, .int (-1), .int (-1), .ref 30, .ref 41, .int 0, .ref 42, .ref 45, .ref 48, .ref 49]),
  .inl (2, 320, .inl (fun _ => 0)),
  .inr (5, [.ref 3, .null, .int 0, .ref 7, .int 0, .ref 8, .ref 9, .ref 10, .ref 11, .int 0, .int 0, .int 0]),
  .inr (10, [.ref 4, .ref 5, .ref 6, .int 0, .int 0, .int 0, .int 0, .long 0]),
  .inl (0, 32, .inl (fun _ => 0)),
  .inl (0, 32, .inl (fun _ => 0)),
  .inl (1, 32, .inr (.inl (fun _ => 0))),
  .inl (1, 14, .inr (.inl (fun _ => 0))),
  .inl (0, 8, .inl (fun _ => 0)),
  .inl (1, 8, .inr (.inl (fun _ => 0))),
  .inl (0, 8, .inl (fun _ => 0)),
  .inl (0, 8, .inl (fun _ => 0)),
  .inr (6, [.ref 13, .ref 14, .ref 15, .int 0, .int 0, .ref 16, .ref 17, .ref 18, .ref 19, .ref 20]),
  .inl (0, 32, .inl (fun _ => 0)),
  .inl (0, 32, .inl (fun _ => 0)),
  .inl (0, 32, .inl (fun _ => 0)),
  .inl (1, 12, .inr (.inl (fun _ => 0))),
  .inl (0, 12, .inl (fun _ => 0)),
  .inl (0, 12, .inl (fun _ => 0)),
  .inl (0, 12, .inl (fun _ => 0)),
  .inl (0, 12, .inl (fun _ => 0)),
  .inr (6, [.ref 22, .ref 23, .ref 24, .int 0, .int 0, .ref 25, .ref 26, .ref 27, .ref 28, .ref 29]),
  .inl (0, 32, .inl (fun _ => 0)),
  .inl (0, 32, .inl (fun _ => 0)),
  .inl (0, 32, .inl (fun _ => 0)),
  .inl (1, 12, .inr (.inl (fun _ => 0))),
  .inl (0, 12, .inl (fun _ => 0)),
  .inl (0, 12, .inl (fun _ => 0)),
  .inl (0, 12, .inl (fun _ => 0)),
  .inl (0, 12, .inl (fun _ => 0)),
  .inr (7, [.ref 31, .ref 40, .int 0]),
  .inl (5, 8, .inr (.inr (.inr (.inr (fun i => if i < 8 then some (32 + i) else none))))),
  .inl (0, 4, .inl (fun _ => 0)),
  .inl (0, 4, .inl (fun _ => 0)),
  .inl (0, 4, .inl (fun _ => 0)),
  .inl (0, 4, .inl (fun _ => 0)),
  .inl (0, 4, .inl (fun _ => 0)),
  .inl (0, 4, .inl (fun _ => 0)),
  .inl (0, 4, .inl (fun _ => 0)),
  .inl (0, 4, .inl (fun _ => 0)),
  .inl (0, 8, .inl (fun _ => 0)),
  .inl (4, 6, .inr (.inr (.inr (.inr (fun _ => none))))),
  .inr (2, [.ref 43, .int 0, .ref 44, .int 0]),
  .inl (1, 128, .inr (.inl (fun _ => 0))),
  .inl (1, 32, .inr (.inl (fun _ => 0))),
  .inr (4, [.ref 46, .int 0, .ref 47]),
  .inl (2, 64, .inl (fun _ => 0)),
  .inl (2, 10, .inl (fun _ => 0)),
  .inr (9, [.int 0, .int 0, .int 0, .int 0, .int 0, .int 0, .int 0, .int (-1), .int 0]),
  .inr (3, [.ref 42, .ref 45, .ref 48, .ref 58, .ref 59, .ref 50, .ref 51, .ref 52, .int 0, .ref 53, .ref 54, .int 0, .ref 55, .ref 56, .ref 57, .int 0, .null, .int 0, .int 0]),
  .inl (1, 8, .inr (.inl (fun _ => 0))),
  .inl (3, 8, .inl (fun _ => 0)),
  .inl (1, 32, .inr (.inl (fun _ => 0))),
  .inl (0, 10, .inl (fun _ => 0)),
  .inl (0, 10, .inl (fun _ => 0)),
  .inl (0, 8, .inl (fun _ => 0)),
  .inl (0, 8, .inl (fun _ => 0)),
  .inl (0, 8, .inl (fun _ => 0)),
  .inr (8, [.ref 42, .int 0]),
  .inr (1, [.ref 42, .ref 60]),
  .inl (0, 64, .inl (fun _ => 0)),
  .inr (13, [.null, .null, .null, .int 0, .int 0, .int 0, .int 0, .long 0, .int 0, .int 0, .int 0, .int 0, .int 0, .int 0, .int 0, .int 0, .null, .null, .null, .null, .null, .null, .int 0, .null, .null, .null, .null, .null, .int 0, .int 0, .null, .null, .null, .null, .null, .null, .null, .int 0, .null, .null, .null, .null, .null, .null, .int 0, .int 0, .int 0, .null, .int 0, .null, .null, .int 0, .null, .null, .null, .int 0, .int 0, .int 0, .null, .null, .int 0, .int 0, .int 0, .int 0, .int 0, .int 0, .int 0, .int 0, .int 0, .int 0, .int 0, .null, .null, .int 0, .null, .null, .null, .null, .null, .int 0, .null, .null, .null, .null, .null, .null, .null, .int 0, .int 0, .long 0])]
set_option maxRecDepth 100000 in
theorem zv_2_1 : (fun X : Nat → Option zz_C => zz_go zt_tf zt_fd X 1 zm_56 0 [(0, .ref 61)] [] zv_m0) = (fun _ => some ((1, [(0, .ref 61)], [.ref 61]), zv_m1)) := by rfl
def zv_m2 : zz_H := [.inr (12, [.ref 1, .int 0, .ref 2, .ref 12, .ref 21, .int (-1), .int (-1), .ref 30, .ref 41, .int 0, .ref 42, .ref 45, .ref 48, .ref 49]),
  .inl (2, 320, .inl (fun _ => 0)),
  .inr (5, [.ref 3, .null, .int 0, .ref 7, .int 0, .ref 8, .ref 9, .ref 10, .ref 11, .int 0, .int 0, .int 0]),
  .inr (10, [.ref 4, .ref 5, .ref 6, .int 0, .int 0, .int 0, .int 0, .long 0]),
  .inl (0, 32, .inl (fun _ => 0)),
  .inl (0, 32, .inl (fun _ => 0)),
  .inl (1, 32, .inr (.inl (fun _ => 0))),
  .inl (1, 14, .inr (.inl (fun _ => 0))),
  .inl (0, 8, .inl (fun _ => 0)),
  .inl (1, 8, .inr (.inl (fun _ => 0))),
  .inl (0, 8, .inl (fun _ => 0)),
  .inl (0, 8, .inl (fun _ => 0)),
  .inr (6, [.ref 13, .ref 14, .ref 15, .int 0, .int 0, .ref 16, .ref 17, .ref 18, .ref 19, .ref 20]),
  .inl (0, 32, .inl (fun _ => 0)),
  .inl (0, 32, .inl (fun _ => 0)),
  .inl (0, 32, .inl (fun _ => 0)),
  .inl (1, 12, .inr (.inl (fun _ => 0))),
  .inl (0, 12, .inl (fun _ => 0)),
  .inl (0, 12, .inl (fun _ => 0)),
  .inl (0, 12, .inl (fun _ => 0)),
  .inl (0, 12, .inl (fun _ => 0)),
  .inr (6, [.ref 22, .ref 23, .ref 24, .int 0, .int 0, .ref 25, .ref 26, .ref 27, .ref 28, .ref 29]),
  .inl (0, 32, .inl (fun _ => 0)),
  .inl (0, 32, .inl (fun _ => 0)),
  .inl (0, 32, .inl (fun _ => 0)),
  .inl (1, 12, .inr (.inl (fun _ => 0))),
  .inl (0, 12, .inl (fun _ => 0)),
  .inl (0, 12, .inl (fun _ => 0)),
  .inl (0, 12, .inl (fun _ => 0)),
  .inl (0, 12, .inl (fun _ => 0)),
  .inr (7, [.ref 31, .ref 40, .int 0]),
  .inl (5, 8, .inr (.inr (.inr (.inr (fun i => if i < 8 then some (32 + i) else none))))),
  .inl (0, 4, .inl (fun _ => 0)),
  .inl (0, 4, .inl (fun _ => 0)),
  .inl (0, 4, .inl (fun _ => 0)),
  .inl (0, 4, .inl (fun _ => 0)),
  .inl (0, 4, .inl (fun _ => 0)),
  .inl (0, 4, .inl (fun _ => 0)),
  .inl (0, 4, .inl (fun _ => 0)),
  .inl (0, 4, .inl (fun _ => 0)),
  .inl (0, 8, .inl (fun _ => 0)),
  .inl (4, 6, .inr (.inr (.inr (.inr (fun _ => none))))),
  .inr (2, [.ref 43, .int 0, .ref 44, .int 0]),
  .inl (1, 128, .inr (.inl (fun _ => 0))),
  .inl (1, 32, .inr (.inl (fun _ => 0))),
  .inr (4, [.ref 46, .int 0, .ref 47]),
  .inl (2, 64, .inl (fun _ => 0)),
  .inl (2, 10, .inl (fun _ => 0)),
  .inr (9, [.int 0, .int 0, .int 0, .int 0, .int 0, .int 0, .int 0, .int (-1), .int 0]),
  .inr (3, [.ref 42, .ref 45, .ref 48, .ref 58, .ref 59, .ref 50, .ref 51, .ref 52, .int 0, .ref 53, .ref 54, .int 0, .ref 55, .ref 56, .ref 57, .int 0, .null, .int 0, .int 0]),
  .inl (1, 8, .inr (.inl (fun _ => 0))),
  .inl (3, 8, .inl (fun _ => 0)),
  .inl (1, 32, .inr (.inl (fun _ => 0))),
  .inl (0, 10, .inl (fun _ => 0)),
  .inl (0, 10, .inl (fun _ => 0)),
  .inl (0, 8, .inl (fun _ => 0)),
  .inl (0, 8, .inl (fun _ => 0)),
  .inl (0, 8, .inl (fun _ => 0)),
  .inr (8, [.ref 42, .int 0]),
  .inr (1, [.ref 42, .ref 60]),
  .inl (0, 64, .inl (fun _ => 0)),
  .inr (13, [.null, .null, .null, .int 0, .int 0, .int 0, .int 0, .long 0, .int 0, .int 0, .int 0, .int 0, .int 0, .int 0, .int 0, .int 0, .null, .null, .null, .null, .null, .null, .int 0, .null, .null, .null, .null, .null, .int 0, .int 0, .null, .null, .null, .null, .null, .null, .null, .int 0, .null, .null, .null, .null, .null, .null, .int 0, .int 0, .int 0, .null, .int 0, .null, .null, .int 0, .null, .null, .null, .int 0, .int 0, .int 0, .null, .null, .int 0, .int 0, .int 0, .int 0, .int 0, .int 0, .int 0, .int 0, .int 0, .int 0, .int 0, .null, .null, .int 0, .null, .null, .null, .null, .null, .int 0, .null, .null, .null, .null, .null, .null, .null, .int 0, .int 0, .long 0])]
def zv_m3 : zz_H := [.inr (12, [.ref 1, .int 0, .ref 2, .ref 12, .ref 21, .int (-1), .int (-1), .ref 30, .ref 41, .int 0, .ref 42, .ref 45, .ref 48, .ref 49]),
  .inl (2, 320, .inl (fun _ => 0)),
  .inr (5, [.ref 3, .null, .int 0, .ref 7, .int 0, .ref 8, .ref 9, .ref 10, .ref 11, .int 0, .int 0, .int 0]),
  .inr (10, [.ref 4, .ref 5, .ref 6, .int 0, .int 0, .int 0, .int 0, .long 0]),
  .inl (0, 32, .inl (fun _ => 0)),
  .inl (0, 32, .inl (fun _ => 0)),
  .inl (1, 32, .inr (.inl (fun _ => 0))),
  .inl (1, 14, .inr (.inl (fun _ => 0))),
  .inl (0, 8, .inl (fun _ => 0)),
  .inl (1, 8, .inr (.inl (fun _ => 0))),
  .inl (0, 8, .inl (fun _ => 0)),
  .inl (0, 8, .inl (fun _ => 0)),
  .inr (6, [.ref 13, .ref 14, .ref 15, .int 0, .int 0, .ref 16, .ref 17, .ref 18, .ref 19, .ref 20]),
  .inl (0, 32, .inl (fun _ => 0)),
  .inl (0, 32, .inl (fun _ => 0)),
  .inl (0, 32, .inl (fun _ => 0)),
  .inl (1, 12, .inr (.inl (fun _ => 0))),
  .inl (0, 12, .inl (fun _ => 0)),
  .inl (0, 12, .inl (fun _ => 0)),
  .inl (0, 12, .inl (fun _ => 0)),
  .inl (0, 12, .inl (fun _ => 0)),
  .inr (6, [.ref 22, .ref 23, .ref 24, .int 0, .int 0, .ref 25, .ref 26, .ref 27, .ref 28, .ref 29]),
  .inl (0, 32, .inl (fun _ => 0)),
  .inl (0, 32, .inl (fun _ => 0)),
  .inl (0, 32, .inl (fun _ => 0)),
  .inl (1, 12, .inr (.inl (fun _ => 0))),
  .inl (0, 12, .inl (fun _ => 0)),
  .inl (0, 12, .inl (fun _ => 0)),
  .inl (0, 12, .inl (fun _ => 0)),
  .inl (0, 12, .inl (fun _ => 0)),
  .inr (7, [.ref 31, .ref 40, .int 0]),
  .inl (5, 8, .inr (.inr (.inr (.inr (fun i => if i < 8 then some (32 + i) else none))))),
  .inl (0, 4, .inl (fun _ => 0)),
  .inl (0, 4, .inl (fun _ => 0)),
  .inl (0, 4, .inl (fun _ => 0)),
  .inl (0, 4, .inl (fun _ => 0)),
  .inl (0, 4, .inl (fun _ => 0)),
  .inl (0, 4, .inl (fun _ => 0)),
  .inl (0, 4, .inl (fun _ => 0)),
  .inl (0, 4, .inl (fun _ => 0)),
  .inl (0, 8, .inl (fun _ => 0)),
  .inl (4, 6, .inr (.inr (.inr (.inr (fun _ => none))))),
  .inr (2, [.ref 43, .int 0, .ref 44, .int 0]),
  .inl (1, 128, .inr (.inl (fun _ => 0))),
  .inl (1, 32, .inr (.inl (fun _ => 0))),
  .inr (4, [.ref 46, .int 0, .ref 47]),
  .inl (2, 64, .inl (fun _ => 0)),
  .inl (2, 10, .inl (fun _ => 0)),
  .inr (9, [.int 0, .int 0, .int 0, .int 0, .int 0, .int 0, .int 0, .int (-1), .int 0]),
  .inr (3, [.ref 42, .ref 45, .ref 48, .ref 58, .ref 59, .ref 50, .ref 51, .ref 52, .int 0, .ref 53, .ref 54, .int 0, .ref 55, .ref 56, .ref 57, .int 0, .null, .int 0, .int 0]),
  .inl (1, 8, .inr (.inl (fun _ => 0))),
  .inl (3, 8, .inl (fun _ => 0)),
  .inl (1, 32, .inr (.inl (fun _ => 0))),
  .inl (0, 10, .inl (fun _ => 0)),
  .inl (0, 10, .inl (fun _ => 0)),
  .inl (0, 8, .inl (fun _ => 0)),
  .inl (0, 8, .inl (fun _ => 0)),
  .inl (0, 8, .inl (fun _ => 0)),
  .inr (8, [.ref 42, .int 0]),
  .inr (1, [.ref 42, .ref 60]),
  .inl (0, 64, .inl (fun _ => 0)),
  .inr (13, [.null, .null, .null, .int 0, .int 0, .int 0, .int 0, .long 0, .int 0, .int 0, .int 0, .int 0, .int 0, .int 0, .int 0, .int 0, .null, .null, .null, .null, .null, .null, .int 0, .null, .null, .null, .null, .null, .int 0, .int 0, .null, .null, .null, .null, .null, .null, .null, .int 0, .null, .null, .null, .null, .null, .null, .int 0, .int 0, .int 0, .null, .int 0, .null, .null, .int 0, .null, .null, .null, .int 0, .int 0, .int 0, .null, .null, .int 0, .int 0, .int 0, .int 0, .int 0, .int 0, .int 0, .int 0, .int 0, .int 0, .int 0, .null, .null, .int 0, .null, .null, .null, .null, .null, .int 0, .null, .null, .null, .null, .null, .null, .null, .int 0, .int 0, .long 0]),
  .inl (1, 41, .inr (.inl (vp_updL (vp_updL (vp_updL (vp_updL (vp_updL (vp_updL (vp_updL (vp_updL (vp_updL (fun _ => 0) 0 176) 1 249) 2 107681) 3 12387497) 4 4797) 5 257) 6 13903) 7 261347000) 8 9592700)))]
set_option maxRecDepth 100000 in
theorem zv_2_3 : (fun X : Nat → Option zz_C => zz_go zt_tf zt_fd X 40 zm_56 4 [(0, .ref 61)] [] zv_m2) = (fun _ => some ((67, [(0, .ref 61)], [.ref 62, .ref 62, .ref 61]), zv_m3)) := by rfl
def zv_m4 : zz_H := [.inr (12, [.ref 1, .int 0, .ref 2, .ref 12, .ref 21, .int (-1), .int (-1), .ref 30, .ref 41, .int 0, .ref 42, .ref 45, .ref 48, .ref 49]),
  .inl (2, 320, .inl (fun _ => 0)),
  .inr (5, [.ref 3, .null, .int 0, .ref 7, .int 0, .ref 8, .ref 9, .ref 10, .ref 11, .int 0, .int 0, .int 0]),
  .inr (10, [.ref 4, .ref 5, .ref 6, .int 0, .int 0, .int 0, .int 0, .long 0]),
  .inl (0, 32, .inl (fun _ => 0)),
  .inl (0, 32, .inl (fun _ => 0)),
  .inl (1, 32, .inr (.inl (fun _ => 0))),
  .inl (1, 14, .inr (.inl (fun _ => 0))),
  .inl (0, 8, .inl (fun _ => 0)),
  .inl (1, 8, .inr (.inl (fun _ => 0))),
  .inl (0, 8, .inl (fun _ => 0)),
  .inl (0, 8, .inl (fun _ => 0)),
  .inr (6, [.ref 13, .ref 14, .ref 15, .int 0, .int 0, .ref 16, .ref 17, .ref 18, .ref 19, .ref 20]),
  .inl (0, 32, .inl (fun _ => 0)),
  .inl (0, 32, .inl (fun _ => 0)),
  .inl (0, 32, .inl (fun _ => 0)),
  .inl (1, 12, .inr (.inl (fun _ => 0))),
  .inl (0, 12, .inl (fun _ => 0)),
  .inl (0, 12, .inl (fun _ => 0)),
  .inl (0, 12, .inl (fun _ => 0)),
  .inl (0, 12, .inl (fun _ => 0)),
  .inr (6, [.ref 22, .ref 23, .ref 24, .int 0, .int 0, .ref 25, .ref 26, .ref 27, .ref 28, .ref 29]),
  .inl (0, 32, .inl (fun _ => 0)),
  .inl (0, 32, .inl (fun _ => 0)),
  .inl (0, 32, .inl (fun _ => 0)),
  .inl (1, 12, .inr (.inl (fun _ => 0))),
  .inl (0, 12, .inl (fun _ => 0)),
  .inl (0, 12, .inl (fun _ => 0)),
  .inl (0, 12, .inl (fun _ => 0)),
  .inl (0, 12, .inl (fun _ => 0)),
  .inr (7, [.ref 31, .ref 40, .int 0]),
  .inl (5, 8, .inr (.inr (.inr (.inr (fun i => if i < 8 then some (32 + i) else none))))),
  .inl (0, 4, .inl (fun _ => 0)),
  .inl (0, 4, .inl (fun _ => 0)),
  .inl (0, 4, .inl (fun _ => 0)),
  .inl (0, 4, .inl (fun _ => 0)),
  .inl (0, 4, .inl (fun _ => 0)),
  .inl (0, 4, .inl (fun _ => 0)),
  .inl (0, 4, .inl (fun _ => 0)),
  .inl (0, 4, .inl (fun _ => 0)),
  .inl (0, 8, .inl (fun _ => 0)),
  .inl (4, 6, .inr (.inr (.inr (.inr (fun _ => none))))),
  .inr (2, [.ref 43, .int 0, .ref 44, .int 0]),
  .inl (1, 128, .inr (.inl (fun _ => 0))),
  .inl (1, 32, .inr (.inl (fun _ => 0))),
  .inr (4, [.ref 46, .int 0, .ref 47]),
  .inl (2, 64, .inl (fun _ => 0)),
  .inl (2, 10, .inl (fun _ => 0)),
  .inr (9, [.int 0, .int 0, .int 0, .int 0, .int 0, .int 0, .int 0, .int (-1), .int 0]),
  .inr (3, [.ref 42, .ref 45, .ref 48, .ref 58, .ref 59, .ref 50, .ref 51, .ref 52, .int 0, .ref 53, .ref 54, .int 0, .ref 55, .ref 56, .ref 57, .int 0, .null, .int 0, .int 0]),
  .inl (1, 8, .inr (.inl (fun _ => 0))),
  .inl (3, 8, .inl (fun _ => 0)),
  .inl (1, 32, .inr (.inl (fun _ => 0))),
  .inl (0, 10, .inl (fun _ => 0)),
  .inl (0, 10, .inl (fun _ => 0)),
  .inl (0, 8, .inl (fun _ => 0)),
  .inl (0, 8, .inl (fun _ => 0)),
  .inl (0, 8, .inl (fun _ => 0)),
  .inr (8, [.ref 42, .int 0]),
  .inr (1, [.ref 42, .ref 60]),
  .inl (0, 64, .inl (fun _ => 0)),
  .inr (13, [.null, .null, .null, .int 0, .int 0, .int 0, .int 0, .long 0, .int 0, .int 0, .int 0, .int 0, .int 0, .int 0, .int 0, .int 0, .null, .null, .null, .null, .null, .null, .int 0, .null, .null, .null, .null, .null, .int 0, .int 0, .null, .null, .null, .null, .null, .null, .null, .int 0, .null, .null, .null, .null, .null, .null, .int 0, .int 0, .int 0, .null, .int 0, .null, .null, .int 0, .null, .null, .null, .int 0, .int 0, .int 0, .null, .null, .int 0, .int 0, .int 0, .int 0, .int 0, .int 0, .int 0, .int 0, .int 0, .int 0, .int 0, .null, .null, .int 0, .null, .null, .null, .null, .null, .int 0, .null, .null, .null, .null, .null, .null, .null, .int 0, .int 0, .long 0]),
  .inl (1, 41, .inr (.inl (vp_updL (vp_updL (vp_updL (vp_updL (vp_updL (vp_updL (vp_updL (vp_updL (vp_updL (vp_updL (vp_updL (vp_updL (vp_updL (vp_updL (vp_updL (vp_updL (vp_updL (vp_updL (vp_updL (fun _ => 0) 0 176) 1 249) 2 107681) 3 12387497) 4 4797) 5 257) 6 13903) 7 261347000) 8 9592700) 9 15091) 10 419) 11 13550) 12 188623) 13 315749) 14 151150) 15 365869) 16 1887) 17 381245) 18 334901377)))]
set_option maxRecDepth 100000 in
theorem zv_2_4 : (fun X : Nat → Option zz_C => zz_go zt_tf zt_fd X 40 zm_56 67 [(0, .ref 61)] [.ref 62, .ref 62, .ref 61] zv_m3) = (fun _ => some ((137, [(0, .ref 61)], [.ref 62, .ref 62, .ref 61]), zv_m4)) := by rfl
def zv_m5 : zz_H := [.inr (12, [.ref 1, .int 0, .ref 2, .ref 12, .ref 21, .int (-1), .int (-1), .ref 30, .ref 41, .int 0, .ref 42, .ref 45, .ref 48, .ref 49]),
  .inl (2, 320, .inl (fun _ => 0)),
  .inr (5, [.ref 3, .null, .int 0, .ref 7, .int 0, .ref 8, .ref 9, .ref 10, .ref 11, .int 0, .int 0, .int 0]),
  .inr (10, [.ref 4, .ref 5, .ref 6, .int 0, .int 0, .int 0, .int 0, .long 0]),
  .inl (0, 32, .inl (fun _ => 0)),
  .inl (0, 32, .inl (fun _ => 0)),
  .inl (1, 32, .inr (.inl (fun _ => 0))),
  .inl (1, 14, .inr (.inl (fun _ => 0))),
  .inl (0, 8, .inl (fun _ => 0)),
  .inl (1, 8, .inr (.inl (fun _ => 0))),
  .inl (0, 8, .inl (fun _ => 0)),
  .inl (0, 8, .inl (fun _ => 0)),
  .inr (6, [.ref 13, .ref 14, .ref 15, .int 0, .int 0, .ref 16, .ref 17, .ref 18, .ref 19, .ref 20]),
  .inl (0, 32, .inl (fun _ => 0)),
  .inl (0, 32, .inl (fun _ => 0)),
  .inl (0, 32, .inl (fun _ => 0)),
  .inl (1, 12, .inr (.inl (fun _ => 0))),
  .inl (0, 12, .inl (fun _ => 0)),
  .inl (0, 12, .inl (fun _ => 0)),
  .inl (0, 12, .inl (fun _ => 0)),
  .inl (0, 12, .inl (fun _ => 0)),
  .inr (6, [.ref 22, .ref 23, .ref 24, .int 0, .int 0, .ref 25, .ref 26, .ref 27, .ref 28, .ref 29]),
  .inl (0, 32, .inl (fun _ => 0)),
  .inl (0, 32, .inl (fun _ => 0)),
  .inl (0, 32, .inl (fun _ => 0)),
  .inl (1, 12, .inr (.inl (fun _ => 0))),
  .inl (0, 12, .inl (fun _ => 0)),
  .inl (0, 12, .inl (fun _ => 0)),
  .inl (0, 12, .inl (fun _ => 0)),
  .inl (0, 12, .inl (fun _ => 0)),
  .inr (7, [.ref 31, .ref 40, .int 0]),
  .inl (5, 8, .inr (.inr (.inr (.inr (fun i => if i < 8 then some (32 + i) else none))))),
  .inl (0, 4, .inl (fun _ => 0)),
  .inl (0, 4, .inl (fun _ => 0)),
  .inl (0, 4, .inl (fun _ => 0)),
  .inl (0, 4, .inl (fun _ => 0)),
  .inl (0, 4, .inl (fun _ => 0)),
  .inl (0, 4, .inl (fun _ => 0)),
  .inl (0, 4, .inl (fun _ => 0)),
  .inl (0, 4, .inl (fun _ => 0)),
  .inl (0, 8, .inl (fun _ => 0)),
  .inl (4, 6, .inr (.inr (.inr (.inr (fun _ => none))))),
  .inr (2, [.ref 43, .int 0, .ref 44, .int 0]),
  .inl (1, 128, .inr (.inl (fun _ => 0))),
  .inl (1, 32, .inr (.inl (fun _ => 0))),
  .inr (4, [.ref 46, .int 0, .ref 47]),
  .inl (2, 64, .inl (fun _ => 0)),
  .inl (2, 10, .inl (fun _ => 0)),
  .inr (9, [.int 0, .int 0, .int 0, .int 0, .int 0, .int 0, .int 0, .int (-1), .int 0]),
  .inr (3, [.ref 42, .ref 45, .ref 48, .ref 58, .ref 59, .ref 50, .ref 51, .ref 52, .int 0, .ref 53, .ref 54, .int 0, .ref 55, .ref 56, .ref 57, .int 0, .null, .int 0, .int 0]),
  .inl (1, 8, .inr (.inl (fun _ => 0))),
  .inl (3, 8, .inl (fun _ => 0)),
  .inl (1, 32, .inr (.inl (fun _ => 0))),
  .inl (0, 10, .inl (fun _ => 0)),
  .inl (0, 10, .inl (fun _ => 0)),
  .inl (0, 8, .inl (fun _ => 0)),
  .inl (0, 8, .inl (fun _ => 0)),
  .inl (0, 8, .inl (fun _ => 0)),
  .inr (8, [.ref 42, .int 0]),
  .inr (1, [.ref 42, .ref 60]),
  .inl (0, 64, .inl (fun _ => 0)),
  .inr (13, [.null, .null, .null, .int 0, .int 0, .int 0, .int 0, .long 0, .int 0, .int 0, .int 0, .int 0, .int 0, .int 0, .int 0, .int 0, .null, .null, .null, .null, .null, .null, .int 0, .null, .null, .null, .null, .null, .int 0, .int 0, .null, .null, .null, .null, .null, .null, .null, .int 0, .null, .null, .null, .null, .null, .null, .int 0, .int 0, .int 0, .null, .int 0, .null, .null, .int 0, .null, .null, .null, .int 0, .int 0, .int 0, .null, .null, .int 0, .int 0, .int 0, .int 0, .int 0, .int 0, .int 0, .int 0, .int 0, .int 0, .int 0, .null, .null, .int 0, .null, .null, .null, .null, .null, .int 0, .null, .null, .null, .null, .null, .null, .null, .int 0, .int 0, .long 0]),
  .inl (1, 41, .inr (.inl (vp_updL (vp_updL (vp_updL (vp_updL (vp_updL (vp_updL (vp_updL (vp_updL (vp_updL (vp_updL (vp_updL (vp_updL (vp_updL (vp_updL (vp_updL (vp_updL (vp_updL (vp_updL (vp_updL (vp_updL (vp_updL (vp_updL (vp_updL (vp_updL (vp_updL (vp_updL (vp_updL (vp_updL (vp_updL (fun _ => 0) 0 176) 1 249) 2 107681) 3 12387497) 4 4797) 5 257) 6 13903) 7 261347000) 8 9592700) 9 15091) 10 419) 11 13550) 12 188623) 13 315749) 14 151150) 15 365869) 16 1887) 17 381245) 18 334901377) 19 223456) 20 14431) 21 9528) 22 9734) 23 376205) 24 385418) 25 4075223) 26 40187) 27 126893) 28 409469)))]
set_option maxRecDepth 100000 in
theorem zv_2_5 : (fun X : Nat → Option zz_C => zz_go zt_tf zt_fd X 40 zm_56 137 [(0, .ref 61)] [.ref 62, .ref 62, .ref 61] zv_m4) = (fun _ => some ((207, [(0, .ref 61)], [.ref 62, .ref 62, .ref 61]), zv_m5)) := by rfl
def zv_m6 : zz_H := [.inr (12, [.ref 1, .int 0, .ref 2, .ref 12, .ref 21, .int (-1), .int (-1), .ref 30, .ref 41, .int 0, .ref 42, .ref 45, .ref 48, .ref 49]),
  .inl (2, 320, .inl (fun _ => 0)),
  .inr (5, [.ref 3, .null, .int 0, .ref 7, .int 0, .ref 8, .ref 9, .ref 10, .ref 11, .int 0, .int 0, .int 0]),
  .inr (10, [.ref 4, .ref 5, .ref 6, .int 0, .int 0, .int 0, .int 0, .long 0]),
  .inl (0, 32, .inl (fun _ => 0)),
  .inl (0, 32, .inl (fun _ => 0)),
  .inl (1, 32, .inr (.inl (fun _ => 0))),
  .inl (1, 14, .inr (.inl (fun _ => 0))),
  .inl (0, 8, .inl (fun _ => 0)),
  .inl (1, 8, .inr (.inl (fun _ => 0))),
  .inl (0, 8, .inl (fun _ => 0)),
  .inl (0, 8, .inl (fun _ => 0)),
  .inr (6, [.ref 13, .ref 14, .ref 15, .int 0, .int 0, .ref 16, .ref 17, .ref 18, .ref 19, .ref 20]),
  .inl (0, 32, .inl (fun _ => 0)),
  .inl (0, 32, .inl (fun _ => 0)),
  .inl (0, 32, .inl (fun _ => 0)),
  .inl (1, 12, .inr (.inl (fun _ => 0))),
  .inl (0, 12, .inl (fun _ => 0)),
  .inl (0, 12, .inl (fun _ => 0)),
  .inl (0, 12, .inl (fun _ => 0)),
  .inl (0, 12, .inl (fun _ => 0)),
  .inr (6, [.ref 22, .ref 23, .ref 24, .int 0, .int 0, .ref 25, .ref 26, .ref 27, .ref 28, .ref 29]),
  .inl (0, 32, .inl (fun _ => 0)),
  .inl (0, 32, .inl (fun _ => 0)),
  .inl (0, 32, .inl (fun _ => 0)),
  .inl (1, 12, .inr (.inl (fun _ => 0))),
  .inl (0, 12, .inl (fun _ => 0)),
  .inl (0, 12, .inl (fun _ => 0)),
  .inl (0, 12, .inl (fun _ => 0)),
  .inl (0, 12, .inl (fun _ => 0)),
  .inr (7, [.ref 31, .ref 40, .int 0]),
  .inl (5, 8, .inr (.inr (.inr (.inr (fun i => if i < 8 then some (32 + i) else none))))),
  .inl (0, 4, .inl (fun _ => 0)),
  .inl (0, 4, .inl (fun _ => 0)),
  .inl (0, 4, .inl (fun _ => 0)),
  .inl (0, 4, .inl (fun _ => 0)),
  .inl (0, 4, .inl (fun _ => 0)),
  .inl (0, 4, .inl (fun _ => 0)),
  .inl (0, 4, .inl (fun _ => 0)),
  .inl (0, 4, .inl (fun _ => 0)),
  .inl (0, 8, .inl (fun _ => 0)),
  .inl (4, 6, .inr (.inr (.inr (.inr (fun _ => none))))),
  .inr (2, [.ref 43, .int 0, .ref 44, .int 0]),
  .inl (1, 128, .inr (.inl (fun _ => 0))),
  .inl (1, 32, .inr (.inl (fun _ => 0))),
  .inr (4, [.ref 46, .int 0, .ref 47]),
  .inl (2, 64, .inl (fun _ => 0)),
  .inl (2, 10, .inl (fun _ => 0)),
  .inr (9, [.int 0, .int 0, .int 0, .int 0, .int 0, .int 0, .int 0, .int (-1), .int 0]),
  .inr (3, [.ref 42, .ref 45, .ref 48, .ref 58, .ref 59, .ref 50, .ref 51, .ref 52, .int 0, .ref 53, .ref 54, .int 0, .ref 55, .ref 56, .ref 57, .int 0, .null, .int 0, .int 0]),
  .inl (1, 8, .inr (.inl (fun _ => 0))),
  .inl (3, 8, .inl (fun _ => 0)),
  .inl (1, 32, .inr (.inl (fun _ => 0))),
  .inl (0, 10, .inl (fun _ => 0)),
  .inl (0, 10, .inl (fun _ => 0)),
  .inl (0, 8, .inl (fun _ => 0)),
  .inl (0, 8, .inl (fun _ => 0)),
  .inl (0, 8, .inl (fun _ => 0)),
  .inr (8, [.ref 42, .int 0]),
  .inr (1, [.ref 42, .ref 60]),
  .inl (0, 64, .inl (fun _ => 0)),
  .inr (13, [.null, .null, .null, .int 0, .int 0, .int 0, .int 0, .long 0, .int 0, .int 0, .int 0, .int 0, .int 0, .int 0, .int 0, .int 0, .null, .null, .null, .null, .null, .null, .int 0, .null, .null, .null, .null, .null, .int 0, .int 0, .null, .null, .null, .null, .null, .null, .null, .int 0, .null, .null, .null, .null, .null, .null, .int 0, .int 0, .int 0, .null, .int 0, .null, .null, .int 0, .null, .null, .null, .int 0, .int 0, .int 0, .null, .null, .int 0, .int 0, .int 0, .int 0, .int 0, .int 0, .int 0, .int 0, .int 0, .int 0, .int 0, .null, .null, .int 0, .null, .null, .null, .null, .null, .int 0, .null, .null, .null, .null, .null, .null, .null, .int 0, .int 0, .long 0]),
  .inl (1, 41, .inr (.inl (vp_updL (vp_updL (vp_updL (vp_updL (vp_updL (vp_updL (vp_updL (vp_updL (vp_updL (vp_updL (vp_updL (vp_updL (vp_updL (vp_updL (vp_updL (vp_updL (vp_updL (vp_updL (vp_updL (vp_updL (vp_updL (vp_updL (vp_updL (vp_updL (vp_updL (vp_updL (vp_updL (vp_updL (vp_updL (vp_updL (vp_updL (vp_updL (vp_updL (vp_updL (vp_updL (vp_updL (vp_updL (vp_updL (vp_updL (fun _ => 0) 0 176) 1 249) 2 107681) 3 12387497) 4 4797) 5 257) 6 13903) 7 261347000) 8 9592700) 9 15091) 10 419) 11 13550) 12 188623) 13 315749) 14 151150) 15 365869) 16 1887) 17 381245) 18 334901377) 19 223456) 20 14431) 21 9528) 22 9734) 23 376205) 24 385418) 25 4075223) 26 40187) 27 126893) 28 409469) 29 4085899) 30 208022) 31 394691) 32 92275) 33 2774) 34 321581) 35 125041) 36 11695) 37 8399691) 38 375062)))]
set_option maxRecDepth 100000 in
theorem zv_2_6 : (fun X : Nat → Option zz_C => zz_go zt_tf zt_fd X 40 zm_56 207 [(0, .ref 61)] [.ref 62, .ref 62, .ref 61] zv_m5) = (fun _ => some ((277, [(0, .ref 61)], [.ref 62, .ref 62, .ref 61]), zv_m6)) := by rfl
def zv_m7 : zz_H := [.inr (12, [.ref 1, .int 0, .ref 2, .ref 12, .ref 21, .int (-1), .int (-1), .ref 30, .ref 41, .int 0, .ref 42, .ref 45, .ref 48, .ref 49]),
  .inl (2, 320, .inl (fun _ => 0)),
  .inr (5, [.ref 3, .null, .int 0, .ref 7, .int 0, .ref 8, .ref 9, .ref 10, .ref 11, .int 0, .int 0, .int 0]),
  .inr (10, [.ref 4, .ref 5, .ref 6, .int 0, .int 0, .int 0, .int 0, .long 0]),
  .inl (0, 32, .inl (fun _ => 0)),
  .inl (0, 32, .inl (fun _ => 0)),
  .inl (1, 32, .inr (.inl (fun _ => 0))),
  .inl (1, 14, .inr (.inl (fun _ => 0))),
  .inl (0, 8, .inl (fun _ => 0)),
  .inl (1, 8, .inr (.inl (fun _ => 0))),
  .inl (0, 8, .inl (fun _ => 0)),
  .inl (0, 8, .inl (fun _ => 0)),
  .inr (6, [.ref 13, .ref 14, .ref 15, .int 0, .int 0, .ref 16, .ref 17, .ref 18, .ref 19, .ref 20]),
  .inl (0, 32, .inl (fun _ => 0)),
  .inl (0, 32, .inl (fun _ => 0)),
  .inl (0, 32, .inl (fun _ => 0)),
  .inl (1, 12, .inr (.inl (fun _ => 0))),
  .inl (0, 12, .inl (fun _ => 0)),
  .inl (0, 12, .inl (fun _ => 0)),
  .inl (0, 12, .inl (fun _ => 0)),
  .inl (0, 12, .inl (fun _ => 0)),
  .inr (6, [.ref 22, .ref 23, .ref 24, .int 0, .int 0, .ref 25, .ref 26, .ref 27, .ref 28, .ref 29]),
  .inl (0, 32, .inl (fun _ => 0)),
  .inl (0, 32, .inl (fun _ => 0)),
  .inl (0, 32, .inl (fun _ => 0)),
  .inl (1, 12, .inr (.inl (fun _ => 0))),
  .inl (0, 12, .inl (fun _ => 0)),
  .inl (0, 12, .inl (fun _ => 0)),
  .inl (0, 12, .inl (fun _ => 0)),
  .inl (0, 12, .inl (fun _ => 0)),
  .inr (7, [.ref 31, .ref 40, .int 0]),
  .inl (5, 8, .inr (.inr (.inr (.inr (fun i => if i < 8 then some (32 + i) else none))))),
  .inl (0, 4, .inl (fun _ => 0)),
  .inl (0, 4, .inl (fun _ => 0)),
  .inl (0, 4, .inl (fun _ => 0)),
  .inl (0, 4, .inl (fun _ => 0)),
  .inl (0, 4, .inl (fun _ => 0)),
  .inl (0, 4, .inl (fun _ => 0)),
  .inl (0, 4, .inl (fun _ => 0)),
  .inl (0, 4, .inl (fun _ => 0)),
  .inl (0, 8, .inl (fun _ => 0)),
  .inl (4, 6, .inr (.inr (.inr (.inr (fun _ => none))))),
  .inr (2, [.ref 43, .int 0, .ref 44, .int 0]),
  .inl (1, 128, .inr (.inl (fun _ => 0))),
  .inl (1, 32, .inr (.inl (fun _ => 0))),
  .inr (4, [.ref 46, .int 0, .ref 47]),
  .inl (2, 64, .inl (fun _ => 0)),
  .inl (2, 10, .inl (fun _ => 0)),
  .inr (9, [.int 0, .int 0, .int 0, .int 0, .int 0, .int 0, .int 0, .int (-1), .int 0]),
  .inr (3, [.ref 42, .ref 45, .ref 48, .ref 58, .ref 59, .ref 50, .ref 51, .ref 52, .int 0, .ref 53, .ref 54, .int 0, .ref 55, .ref 56, .ref 57, .int 0, .null, .int 0, .int 0]),
  .inl (1, 8, .inr (.inl (fun _ => 0))),
  .inl (3, 8, .inl (fun _ => 0)),
  .inl (1, 32, .inr (.inl (fun _ => 0))),
  .inl (0, 10, .inl (fun _ => 0)),
  .inl (0, 10, .inl (fun _ => 0)),
  .inl (0, 8, .inl (fun _ => 0)),
  .inl (0, 8, .inl (fun _ => 0)),
  .inl (0, 8, .inl (fun _ => 0)),
  .inr (8, [.ref 42, .int 0]),
  .inr (1, [.ref 42, .ref 60]),
  .inl (0, 64, .inl (fun _ => 0)),
  .inr (13, [.ref 62, .ref 63, .ref 64, .int 0, .int 0, .int 0, .int 0, .long 0, .int 0, .int 0, .int 0, .int 0, .int 0, .int 0, .int 0, .int 0, .ref 65, .ref 66, .ref 67, .ref 68, .ref 69, .ref 70, .int 0, .null, .null, .null, .null, .null, .int 0, .int 0, .null, .null, .null, .null, .null, .null, .null, .int 0, .null, .null, .null, .null, .null, .null, .int 0, .int 0, .int 0, .null, .int 0, .null, .null, .int 0, .null, .null, .null, .int 0, .int 0, .int 0, .null, .null, .int 0, .int 0, .int 0, .int 0, .int 0, .int 0, .int 0, .int 0, .int 0, .int 0, .int 0, .null, .null, .int 0, .null, .null, .null, .null, .null, .int 0, .null, .null, .null, .null, .null, .null, .null, .int 0, .int 0, .long 0]),
  .inl (1, 41, .inr (.inl (vp_updL (vp_updL (vp_updL (vp_updL (vp_updL (vp_updL (vp_updL (vp_updL (vp_updL (vp_updL (vp_updL (vp_updL (vp_updL (vp_updL (vp_updL (vp_updL (vp_updL (vp_updL (vp_updL (vp_updL (vp_updL (vp_updL (vp_updL (vp_updL (vp_updL (vp_updL (vp_updL (vp_updL (vp_updL (vp_updL (vp_updL (vp_updL (vp_updL (vp_updL (vp_updL (vp_updL (vp_updL (vp_updL (vp_updL (vp_updL (vp_updL (fun _ => 0) 0 176) 1 249) 2 107681) 3 12387497) 4 4797) 5 257) 6 13903) 7 261347000) 8 9592700) 9 15091) 10 419) 11 13550) 12 188623) 13 315749) 14 151150) 15 365869) 16 1887) 17 381245) 18 334901377) 19 223456) 20 14431) 21 9528) 22 9734) 23 376205) 24 385418) 25 4075223) 26 40187) 27 126893) 28 409469) 29 4085899) 30 208022) 31 394691) 32 92275) 33 2774) 34 321581) 35 125041) 36 11695) 37 8399691) 38 375062) 39 99233) 40 129361))),
  .inl (0, 30, .inl (fun _ => 0)),
  .inl (2, 1620, .inl (fun _ => 0)),
  .inl (1, 24, .inr (.inl (fun _ => 0))),
  .inl (0, 24, .inl (fun _ => 0)),
  .inl (0, 24, .inl (fun _ => 0)),
  .inl (0, 24, .inl (fun _ => 0)),
  .inl (0, 24, .inl (fun _ => 0)),
  .inl (1, 14, .inr (.inl (fun _ => 0)))]
set_option maxRecDepth 100000 in
theorem zv_2_7 : (fun X : Nat → Option zz_C => zz_go zt_tf zt_fd X 40 zm_56 277 [(0, .ref 61)] [.ref 62, .ref 62, .ref 61] zv_m6) = (fun _ => some ((358, [(0, .ref 61)], []), zv_m7)) := by rfl
def zv_m8 : zz_H := [.inr (12, [.ref 1, .int 0, .ref 2, .ref 12, .ref 21, .int (-1), .int (-1), .ref 30, .ref 41, .int 0, .ref 42, .ref 45, .ref 48, .ref 49]),
  .inl (2, 320, .inl (fun _ => 0)),
  .inr (5, [.ref 3, .null, .int 0, .ref 7, .int 0, .ref 8, .ref 9, .ref 10, .ref 11, .int 0, .int 0, .int 0]),
  .inr (10, [.ref 4, .ref 5, .ref 6, .int 0, .int 0, .int 0, .int 0, .long 0]),
  .inl (0, 32, .inl (fun _ => 0)),
  .inl (0, 32, .inl (fun _ => 0)),
  .inl (1, 32, .inr (.inl (fun _ => 0))),
  .inl (1, 14, .inr (.inl (fun _ => 0))),
  .inl (0, 8, .inl (fun _ => 0)),
  .inl (1, 8, .inr (.inl (fun _ => 0))),
  .inl (0, 8, .inl (fun _ => 0)),
  .inl (0, 8, .inl (fun _ => 0)),
  .inr (6, [.ref 13, .ref 14, .ref 15, .int 0, .int 0, .ref 16, .ref 17, .ref 18, .ref 19, .ref 20]),
  .inl (0, 32, .inl (fun _ => 0)),
  .inl (0, 32, .inl (fun _ => 0)),
  .inl (0, 32, .inl (fun _ => 0)),
  .inl (1, 12, .inr (.inl (fun _ => 0))),
  .inl (0, 12, .inl (fun _ => 0)),
  .inl (0, 12, .inl (fun _ => 0)),
  .inl (0, 12, .inl (fun _ => 0)),
  .inl (0, 12, .inl (fun _ => 0)),
  .inr (6, [.ref 22, .ref 23, .ref 24, .int 0, .int 0, .ref 25, .ref 26, .ref 27, .ref 28, .ref 29]),
  .inl (0, 32, .inl (fun _ => 0)),
  .inl (0, 32, .inl (fun _ => 0)),
  .inl (0, 32, .inl (fun _ => 0)),
  .inl (1, 12, .inr (.inl (fun _ => 0))),
  .inl (0, 12, .inl (fun _ => 0)),
  .inl (0, 12, .inl (fun _ => 0)),
  .inl (0, 12, .inl (fun _ => 0)),
  .inl (0, 12, .inl (fun _ => 0)),
  .inr (7, [.ref 31, .ref 40, .int 0]),
  .inl (5, 8, .inr (.inr (.inr (.inr (fun i => if i < 8 then some (32 + i) else none))))),
  .inl (0, 4, .inl (fun _ => 0)),
  .inl (0, 4, .inl (fun _ => 0)),
  .inl (0, 4, .inl (fun _ => 0)),
  .inl (0, 4, .inl (fun _ => 0)),
  .inl (0, 4, .inl (fun _ => 0)),
  .inl (0, 4, .inl (fun _ => 0)),
  .inl (0, 4, .inl (fun _ => 0)),
  .inl (0, 4, .inl (fun _ => 0)),
  .inl (0, 8, .inl (fun _ => 0)),
  .inl (4, 6, .inr (.inr (.inr (.inr (fun _ => none))))),
  .inr (2, [.ref 43, .int 0, .ref 44, .int 0]),
  .inl (1, 128, .inr (.inl (fun _ => 0))),
  .inl (1, 32, .inr (.inl (fun _ => 0))),
  .inr (4, [.ref 46, .int 0, .ref 47]),
  .inl (2, 64, .inl (fun _ => 0)),
  .inl (2, 10, .inl (fun _ => 0)),
  .inr (9, [.int 0, .int 0, .int 0, .int 0, .int 0, .int 0, .int 0, .int (-1), .int 0]),
  .inr (3, [.ref 42, .ref 45, .ref 48, .ref 58, .ref 59, .ref 50, .ref 51, .ref 52, .int 0, .ref 53, .ref 54, .int 0, .ref 55, .ref 56, .ref 57, .int 0, .null, .int 0, .int 0]),
  .inl (1, 8, .inr (.inl (fun _ => 0))),
  .inl (3, 8, .inl (fun _ => 0)),
  .inl (1, 32, .inr (.inl (fun _ => 0))),
  .inl (0, 10, .inl (fun _ => 0)),
  .inl (0, 10, .inl (fun _ => 0)),
  .inl (0, 8, .inl (fun _ => 0)),
  .inl (0, 8, .inl (fun _ => 0)),
  .inl (0, 8, .inl (fun _ => 0)),
  .inr (8, [.ref 42, .int 0]),
  .inr (1, [.ref 42, .ref 60]),
  .inl (0, 64, .inl (fun _ => 0)),
  .inr (13, [.ref 62, .ref 63, .ref 64, .int 0, .int 0, .int 0, .int 0, .long 0, .int 0, .int 0, .int 0, .int 0, .int 0, .int 0, .int 0, .int 0, .ref 65, .ref 66, .ref 67, .ref 68, .ref 69, .ref 70, .int 0, .ref 71, .ref 72, .ref 73, .ref 74, .ref 75, .int 0, .int 0, .ref 76, .ref 77, .ref 78, .ref 79, .ref 80, .null, .null, .int 0, .null, .null, .null, .null, .null, .null, .int 0, .int 0, .int 0, .null, .int 0, .null, .null, .int 0, .null, .null, .null, .int 0, .int 0, .int 0, .null, .null, .int 0, .int 0, .int 0, .int 0, .int 0, .int 0, .int 0, .int 0, .int 0, .int 0, .int 0, .null, .null, .int 0, .null, .null, .null, .null, .null, .int 0, .null, .null, .null, .null, .null, .null, .null, .int 0, .int 0, .long 0]),
  .inl (1, 41, .inr (.inl (vp_updL (vp_updL (vp_updL (vp_updL (vp_updL (vp_updL (vp_updL (vp_updL (vp_updL (vp_updL (vp_updL (vp_updL (vp_updL (vp_updL (vp_updL (vp_updL (vp_updL (vp_updL (vp_updL (vp_updL (vp_updL (vp_updL (vp_updL (vp_updL (vp_updL (vp_updL (vp_updL (vp_updL (vp_updL (vp_updL (vp_updL (vp_updL (vp_updL (vp_updL (vp_updL (vp_updL (vp_updL (vp_updL (vp_updL (vp_updL (vp_updL (fun _ => 0) 0 176) 1 249) 2 107681) 3 12387497) 4 4797) 5 257) 6 13903) 7 261347000) 8 9592700) 9 15091) 10 419) 11 13550) 12 188623) 13 315749) 14 151150) 15 365869) 16 1887) 17 381245) 18 334901377) 19 223456) 20 14431) 21 9528) 22 9734) 23 376205) 24 385418) 25 4075223) 26 40187) 27 126893) 28 409469) 29 4085899) 30 208022) 31 394691) 32 92275) 33 2774) 34 321581) 35 125041) 36 11695) 37 8399691) 38 375062) 39 99233) 40 129361))),
  .inl (0, 30, .inl (fun _ => 0)),
  .inl (2, 1620, .inl (fun _ => 0)),
  .inl (1, 24, .inr (.inl (fun _ => 0))),
  .inl (0, 24, .inl (fun _ => 0)),
  .inl (0, 24, .inl (fun _ => 0)),
  .inl (0, 24, .inl (fun _ => 0)),
  .inl (0, 24, .inl (fun _ => 0)),
  .inl (1, 14, .inr (.inl (fun _ => 0))),
  .inl (0, 8000, .inl (fun _ => 0)),
  .inl (0, 8000, .inl (fun _ => 0)),
  .inl (0, 8000, .inl (fun _ => 0)),
  .inl (0, 8000, .inl (fun _ => 0)),
  .inl (0, 8000, .inl (fun _ => 0)),
  .inl (0, 800, .inl (fun _ => 0)),
  .inl (0, 800, .inl (fun _ => 0)),
  .inl (0, 800, .inl (fun _ => 0)),
  .inl (1, 800, .inr (.inl (fun _ => 0))),
  .inl (0, 12, .inl (fun _ => 0))]
set_option maxRecDepth 100000 in
theorem zv_2_8 : (fun X : Nat → Option zz_C => zz_go zt_tf zt_fd X 40 zm_56 358 [(0, .ref 61)] [] zv_m7) = (fun _ => some ((447, [(0, .ref 61)], []), zv_m8)) := by rfl
def zv_m9 : zz_H := [.inr (12, [.ref 1, .int 0, .ref 2, .ref 12, .ref 21, .int (-1), .int (-1), .ref 30, .ref 41, .int 0, .ref 42, .ref 45, .ref 48, .ref 49]),
  .inl (2, 320, .inl (fun _ => 0)),
  .inr (5, [.ref 3, .null, .int 0, .ref 7, .int 0, .ref 8, .ref 9, .ref 10, .ref 11, .int 0, .int 0, .int 0]),
  .inr (10, [.ref 4, .ref 5, .ref 6, .int 0, .int 0, .int 0, .int 0, .long 0]),
  .inl (0, 32, .inl (fun _ => 0)),
  .inl (0, 32, .inl (fun _ => 0)),
  .inl (1, 32, .inr (.inl (fun _ => 0))),
  .inl (1, 14, .inr (.inl (fun _ => 0))),
  .inl (0, 8, .inl (fun _ => 0)),
  .inl (1, 8, .inr (.inl (fun _ => 0))),
  .inl (0, 8, .inl (fun _ => 0)),
  .inl (0, 8, .inl (fun _ => 0)),
  .inr (6, [.ref 13, .ref 14, .ref 15, .int 0, .int 0, .ref 16, .ref 17, .ref 18, .ref 19, .ref 20]),
  .inl (0, 32, .inl (fun _ => 0)),
  .inl (0, 32, .inl (fun _ => 0)),
  .inl (0, 32, .inl (fun _ => 0)),
  .inl (1, 12, .inr (.inl (fun _ => 0))),
  .inl (0, 12, .inl (fun _ => 0)),
  .inl (0, 12, .inl (fun _ => 0)),
  .inl (0, 12, .inl (fun _ => 0)),
  .inl (0, 12, .inl (fun _ => 0)),
  .inr (6, [.ref 22, .ref 23, .ref 24, .int 0, .int 0, .ref 25, .ref 26, .ref 27, .ref 28, .ref 29]),
  .inl (0, 32, .inl (fun _ => 0)),
  .inl (0, 32, .inl (fun _ => 0)),
  .inl (0, 32, .inl (fun _ => 0)),
  .inl (1, 12, .inr (.inl (fun _ => 0))),
  .inl (0, 12, .inl (fun _ => 0)),
  .inl (0, 12, .inl (fun _ => 0)),
  .inl (0, 12, .inl (fun _ => 0)),
  .inl (0, 12, .inl (fun _ => 0)),
  .inr (7, [.ref 31, .ref 40, .int 0]),
  .inl (5, 8, .inr (.inr (.inr (.inr (fun i => if i < 8 then some (32 + i) else none))))),
  .inl (0, 4, .inl (fun _ => 0)),
  .inl (0, 4, .inl (fun _ => 0)),
  .inl (0, 4, .inl (fun _ => 0)),
  .inl (0, 4, .inl (fun _ => 0)),
  .inl (0, 4, .inl (fun _ => 0)),
  .inl (0, 4, .inl (fun _ => 0)),
  .inl (0, 4, .inl (fun _ => 0)),
  .inl (0, 4, .inl (fun _ => 0)),
  .inl (0, 8, .inl (fun _ => 0)),
  .inl (4, 6, .inr (.inr (.inr (.inr (fun _ => none))))),
  .inr (2, [.ref 43, .int 0, .ref 44, .int 0]),
  .inl (1, 128, .inr (.inl (fun _ => 0))),
  .inl (1, 32, .inr (.inl (fun _ => 0))),
  .inr (4, [.ref 46, .int 0, .ref 47]),
  .inl (2, 64, .inl (fun _ => 0)),
  .inl (2, 10, .inl (fun _ => 0)),
  .inr (9, [.int 0, .int 0, .int 0, .int 0, .int 0, .int 0, .int 0, .int (-1), .int 0]),
  .inr (3, [.ref 42, .ref 45, .ref 48, .ref 58, .ref 59, .ref 50, .ref 51, .ref 52, .int 0, .ref 53, .ref 54, .int 0, .ref 55, .ref 56, .ref 57, .int 0, .null, .int 0, .int 0]),
  .inl (1, 8, .inr (.inl (fun _ => 0))),
  .inl (3, 8, .inl (fun _ => 0)),
  .inl (1, 32, .inr (.inl (fun _ => 0))),
  .inl (0, 10, .inl (fun _ => 0)),
  .inl (0, 10, .inl (fun _ => 0)),
  .inl (0, 8, .inl (fun _ => 0)),
  .inl (0, 8, .inl (fun _ => 0)),
  .inl (0, 8, .inl (fun _ => 0)),
  .inr (8, [.ref 42, .int 0]),
  .inr (1, [.ref 42, .ref 60]),
  .inl (0, 64, .inl (fun _ => 0)),
  .inr (13, [.ref 62, .ref 63, .ref 64, .int 0, .int 0, .int 0, .int 0, .long 0, .int 0, .int 0, .int 0, .int 0, .int 0, .int 0, .int 0, .int 0, .ref 65, .ref 66, .ref 67, .ref 68, .ref 69, .ref 70, .int 0, .ref 71, .ref 72, .ref 73, .ref 74, .ref 75, .int 0, .int 0, .ref 76, .ref 77, .ref 78, .ref 79, .ref 80, .ref 81, .ref 82, .int 0, .ref 83, .ref 84, .ref 85, .ref 86, .ref 87, .ref 88, .int 0, .int (-1), .int (-1), .null, .int 0, .null, .null, .int 0, .null, .null, .null, .int 0, .int 0, .int 0, .null, .null, .int 0, .int 0, .int 0, .int 0, .int 0, .int 0, .int 0, .int 0, .int 0, .int 0, .int 0, .null, .null, .int 0, .null, .null, .null, .null, .null, .int 0, .null, .null, .null, .null, .null, .null, .null, .int 0, .int 0, .long 0]),
  .inl (1, 41, .inr (.inl (vp_updL (vp_updL (vp_updL (vp_updL (vp_updL (vp_updL (vp_updL (vp_updL (vp_updL (vp_updL (vp_updL (vp_updL (vp_updL (vp_updL (vp_updL (vp_updL (vp_updL (vp_updL (vp_updL (vp_updL (vp_updL (vp_updL (vp_updL (vp_updL (vp_updL (vp_updL (vp_updL (vp_updL (vp_updL (vp_updL (vp_updL (vp_updL (vp_updL (vp_updL (vp_updL (vp_updL (vp_updL (vp_updL (vp_updL (vp_updL (vp_updL (fun _ => 0) 0 176) 1 249) 2 107681) 3 12387497) 4 4797) 5 257) 6 13903) 7 261347000) 8 9592700) 9 15091) 10 419) 11 13550) 12 188623) 13 315749) 14 151150) 15 365869) 16 1887) 17 381245) 18 334901377) 19 223456) 20 14431) 21 9528) 22 9734) 23 376205) 24 385418) 25 4075223) 26 40187) 27 126893) 28 409469) 29 4085899) 30 208022) 31 394691) 32 92275) 33 2774) 34 321581) 35 125041) 36 11695) 37 8399691) 38 375062) 39 99233) 40 129361))),
  .inl (0, 30, .inl (fun _ => 0)),
  .inl (2, 1620, .inl (fun _ => 0)),
  .inl (1, 24, .inr (.inl (fun _ => 0))),
  .inl (0, 24, .inl (fun _ => 0)),
  .inl (0, 24, .inl (fun _ => 0)),
  .inl (0, 24, .inl (fun _ => 0)),
  .inl (0, 24, .inl (fun _ => 0)),
  .inl (1, 14, .inr (.inl (fun _ => 0))),
  .inl (0, 8000, .inl (fun _ => 0)),
  .inl (0, 8000, .inl (fun _ => 0)),
  .inl (0, 8000, .inl (fun _ => 0)),
  .inl (0, 8000, .inl (fun _ => 0)),
  .inl (0, 8000, .inl (fun _ => 0)),
  .inl (0, 800, .inl (fun _ => 0)),
  .inl (0, 800, .inl (fun _ => 0)),
  .inl (0, 800, .inl (fun _ => 0)),
  .inl (1, 800, .inr (.inl (fun _ => 0))),
  .inl (0, 12, .inl (fun _ => 0)),
  .inl (0, 12, .inl (fun _ => 0)),
  .inl (0, 12, .inl (fun _ => 0)),
  .inl (0, 80, .inl (fun _ => 0)),
  .inl (0, 80, .inl (fun _ => 0)),
  .inl (0, 80, .inl (fun _ => 0)),
  .inl (0, 80, .inl (fun _ => 0)),
  .inl (1, 80, .inr (.inl (fun _ => 0))),
  .inl (0, 80, .inl (fun _ => 0))]
set_option maxRecDepth 100000 in
theorem zv_2_9 : (fun X : Nat → Option zz_C => zz_go zt_tf zt_fd X 40 zm_56 447 [(0, .ref 61)] [] zv_m8) = (fun _ => some ((524, [(0, .ref 61)], [.int 166300, .ref 61]), zv_m9)) := by rfl
def zv_m10 : zz_H := [.inr (12, [.ref 1, .int 0, .ref 2, .ref 12, .ref 21, .int (-1), .int (-1), .ref 30, .ref 41, .int 0, .ref 42, .ref 45, .ref 48, .ref 49]),
  .inl (2, 320, .inl (fun _ => 0)),
  .inr (5, [.ref 3, .null, .int 0, .ref 7, .int 0, .ref 8, .ref 9, .ref 10, .ref 11, .int 0, .int 0, .int 0]),
  .inr (10, [.ref 4, .ref 5, .ref 6, .int 0, .int 0, .int 0, .int 0, .long 0]),
  .inl (0, 32, .inl (fun _ => 0)),
  .inl (0, 32, .inl (fun _ => 0)),
  .inl (1, 32, .inr (.inl (fun _ => 0))),
  .inl (1, 14, .inr (.inl (fun _ => 0))),
  .inl (0, 8, .inl (fun _ => 0)),
  .inl (1, 8, .inr (.inl (fun _ => 0))),
  .inl (0, 8, .inl (fun _ => 0)),
  .inl (0, 8, .inl (fun _ => 0)),
  .inr (6, [.ref 13, .ref 14, .ref 15, .int 0, .int 0, .ref 16, .ref 17, .ref 18, .ref 19, .ref 20]),
  .inl (0, 32, .inl (fun _ => 0)),
  .inl (0, 32, .inl (fun _ => 0)),
  .inl (0, 32, .inl (fun _ => 0)),
  .inl (1, 12, .inr (.inl (fun _ => 0))),
  .inl (0, 12, .inl (fun _ => 0)),
  .inl (0, 12, .inl (fun _ => 0)),
  .inl (0, 12, .inl (fun _ => 0)),
  .inl (0, 12, .inl (fun _ => 0)),
  .inr (6, [.ref 22, .ref 23, .ref 24, .int 0, .int 0, .ref 25, .ref 26, .ref 27, .ref 28, .ref 29]),
  .inl (0, 32, .inl (fun _ => 0)),
  .inl (0, 32, .inl (fun _ => 0)),
  .inl (0, 32, .inl (fun _ => 0)),
  .inl (1, 12, .inr (.inl (fun _ => 0))),
  .inl (0, 12, .inl (fun _ => 0)),
  .inl (0, 12, .inl (fun _ => 0)),
  .inl (0, 12, .inl (fun _ => 0)),
  .inl (0, 12, .inl (fun _ => 0)),
  .inr (7, [.ref 31, .ref 40, .int 0]),
  .inl (5, 8, .inr (.inr (.inr (.inr (fun i => if i < 8 then some (32 + i) else none))))),
  .inl (0, 4, .inl (fun _ => 0)),
  .inl (0, 4, .inl (fun _ => 0)),
  .inl (0, 4, .inl (fun _ => 0)),
  .inl (0, 4, .inl (fun _ => 0)),
  .inl (0, 4, .inl (fun _ => 0)),
  .inl (0, 4, .inl (fun _ => 0)),
  .inl (0, 4, .inl (fun _ => 0)),
  .inl (0, 4, .inl (fun _ => 0)),
  .inl (0, 8, .inl (fun _ => 0)),
  .inl (4, 6, .inr (.inr (.inr (.inr (fun _ => none))))),
  .inr (2, [.ref 43, .int 0, .ref 44, .int 0]),
  .inl (1, 128, .inr (.inl (fun _ => 0))),
  .inl (1, 32, .inr (.inl (fun _ => 0))),
  .inr (4, [.ref 46, .int 0, .ref 47]),
  .inl (2, 64, .inl (fun _ => 0)),
  .inl (2, 10, .inl (fun _ => 0)),
  .inr (9, [.int 0, .int 0, .int 0, .int 0, .int 0, .int 0, .int 0, .int (-1), .int 0]),
  .inr (3, [.ref 42, .ref 45, .ref 48, .ref 58, .ref 59, .ref 50, .ref 51, .ref 52, .int 0, .ref 53, .ref 54, .int 0, .ref 55, .ref 56, .ref 57, .int 0, .null, .int 0, .int 0]),
  .inl (1, 8, .inr (.inl (fun _ => 0))),
  .inl (3, 8, .inl (fun _ => 0)),
  .inl (1, 32, .inr (.inl (fun _ => 0))),
  .inl (0, 10, .inl (fun _ => 0)),
  .inl (0, 10, .inl (fun _ => 0)),
  .inl (0, 8, .inl (fun _ => 0)),
  .inl (0, 8, .inl (fun _ => 0)),
  .inl (0, 8, .inl (fun _ => 0)),
  .inr (8, [.ref 42, .int 0]),
  .inr (1, [.ref 42, .ref 60]),
  .inl (0, 64, .inl (fun _ => 0)),
  .inr (13, [.ref 62, .ref 63, .ref 64, .int 0, .int 0, .int 0, .int 0, .long 0, .int 0, .int 0, .int 0, .int 0, .int 0, .int 0, .int 0, .int 0, .ref 65, .ref 66, .ref 67, .ref 68, .ref 69, .ref 70, .int 0, .ref 71, .ref 72, .ref 73, .ref 74, .ref 75, .int 0, .int 0, .ref 76, .ref 77, .ref 78, .ref 79, .ref 80, .ref 81, .ref 82, .int 0, .ref 83, .ref 84, .ref 85, .ref 86, .ref 87, .ref 88, .int 0, .int (-1), .int (-1), .ref 89, .int 0, .ref 90, .ref 91, .int 0, .ref 92, .ref 93, .ref 94, .int 0, .int 0, .int 0, .ref 95, .ref 96, .int 0, .int 0, .int 0, .int 0, .int 0, .int 0, .int 0, .int (-1), .int 0, .int 0, .int 0, .ref 97, .null, .int 0, .null, .null, .null, .null, .null, .int 0, .null, .null, .null, .null, .null, .null, .null, .int 0, .int 0, .long 0]),
  .inl (1, 41, .inr (.inl (vp_updL (vp_updL (vp_updL (vp_updL (vp_updL (vp_updL (vp_updL (vp_updL (vp_updL (vp_updL (vp_updL (vp_updL (vp_updL (vp_updL (vp_updL (vp_updL (vp_updL (vp_updL (vp_updL (vp_updL (vp_updL (vp_updL (vp_updL (vp_updL (vp_updL (vp_updL (vp_updL (vp_updL (vp_updL (vp_updL (vp_updL (vp_updL (vp_updL (vp_updL (vp_updL (vp_updL (vp_updL (vp_updL (vp_updL (vp_updL (vp_updL (fun _ => 0) 0 176) 1 249) 2 107681) 3 12387497) 4 4797) 5 257) 6 13903) 7 261347000) 8 9592700) 9 15091) 10 419) 11 13550) 12 188623) 13 315749) 14 151150) 15 365869) 16 1887) 17 381245) 18 334901377) 19 223456) 20 14431) 21 9528) 22 9734) 23 376205) 24 385418) 25 4075223) 26 40187) 27 126893) 28 409469) 29 4085899) 30 208022) 31 394691) 32 92275) 33 2774) 34 321581) 35 125041) 36 11695) 37 8399691) 38 375062) 39 99233) 40 129361))),
  .inl (0, 30, .inl (fun _ => 0)),
  .inl (2, 1620, .inl (fun _ => 0)),
  .inl (1, 24, .inr (.inl (fun _ => 0))),
  .inl (0, 24, .inl (fun _ => 0)),
  .inl (0, 24, .inl (fun _ => 0)),
  .inl (0, 24, .inl (fun _ => 0)),
  .inl (0, 24, .inl (fun _ => 0)),
  .inl (1, 14, .inr (.inl (fun _ => 0))),
  .inl (0, 8000, .inl (fun _ => 0)),
  .inl (0, 8000, .inl (fun _ => 0)),
  .inl (0, 8000, .inl (fun _ => 0)),
  .inl (0, 8000, .inl (fun _ => 0)),
  .inl (0, 8000, .inl (fun _ => 0)),
  .inl (0, 800, .inl (fun _ => 0)),
  .inl (0, 800, .inl (fun _ => 0)),
  .inl (0, 800, .inl (fun _ => 0)),
  .inl (1, 800, .inr (.inl (fun _ => 0))),
  .inl (0, 12, .inl (fun _ => 0)),
  .inl (0, 12, .inl (fun _ => 0)),
  .inl (0, 12, .inl (fun _ => 0)),
  .inl (0, 80, .inl (fun _ => 0)),
  .inl (0, 80, .inl (fun _ => 0)),
  .inl (0, 80, .inl (fun _ => 0)),
  .inl (0, 80, .inl (fun _ => 0)),
  .inl (1, 80, .inr (.inl (fun _ => 0))),
  .inl (0, 80, .inl (fun _ => 0)),
  .inl (0, 166300, .inl (fun _ => 0)),
  .inl (0, 9000, .inl (fun _ => 0)),
  .inl (0, 9000, .inl (fun _ => 0)),
  .inl (0, 8, .inl (fun _ => 0)),
  .inl (0, 8, .inl (fun _ => 0)),
  .inl (0, 8, .inl (fun _ => 0)),
  .inl (0, 700, .inl (fun _ => 0)),
  .inl (0, 700, .inl (fun _ => 0)),
  .inl (0, 8, .inl (fun _ => 0)),
  .inl (0, 8, .inl (fun _ => 0))]
set_option maxRecDepth 100000 in
theorem zv_2_10 : (fun X : Nat → Option zz_C => zz_go zt_tf zt_fd X 40 zm_56 524 [(0, .ref 61)] [.int 166300, .ref 61] zv_m9) = (fun _ => some ((607, [(0, .ref 61)], [.ref 98, .ref 61]), zv_m10)) := by rfl
def zv_m11 : zz_H := [.inr (12, [.ref 1, .int 0, .ref 2, .ref 12, .ref 21, .int (-1), .int (-1), .ref 30, .ref 41, .int 0, .ref 42, .ref 45, .ref 48, .ref 49]),
  .inl (2, 320, .inl (fun _ => 0)),
  .inr (5, [.ref 3, .null, .int 0, .ref 7, .int 0, .ref 8, .ref 9, .ref 10, .ref 11, .int 0, .int 0, .int 0]),
  .inr (10, [.ref 4, .ref 5, .ref 6, .int 0, .int 0, .int 0, .int 0, .long 0]),
  .inl (0, 32, .inl (fun _ => 0)),
  .inl (0, 32, .inl (fun _ => 0)),
  .inl (1, 32, .inr (.inl (fun _ => 0))),
  .inl (1, 14, .inr (.inl (fun _ => 0))),
  .inl (0, 8, .inl (fun _ => 0)),
  .inl (1, 8, .inr (.inl (fun _ => 0))),
  .inl (0, 8, .inl (fun _ => 0)),
  .inl (0, 8, .inl (fun _ => 0)),
  .inr (6, [.ref 13, .ref 14, .ref 15, .int 0, .int 0, .ref 16, .ref 17, .ref 18, .ref 19, .ref 20]),
  .inl (0, 32, .inl (fun _ => 0)),
  .inl (0, 32, .inl (fun _ => 0)),
  .inl (0, 32, .inl (fun _ => 0)),
  .inl (1, 12, .inr (.inl (fun _ => 0))),
  .inl (0, 12, .inl (fun _ => 0)),
  .inl (0, 12, .inl (fun _ => 0)),
  .inl (0, 12, .inl (fun _ => 0)),
  .inl (0, 12, .inl (fun _ => 0)),
  .inr (6, [.ref 22, .ref 23, .ref 24, .int 0, .int 0, .ref 25, .ref 26, .ref 27, .ref 28, .ref 29]),
  .inl (0, 32, .inl (fun _ => 0)),
  .inl (0, 32, .inl (fun _ => 0)),
  .inl (0, 32, .inl (fun _ => 0)),
  .inl (1, 12, .inr (.inl (fun _ => 0))),
  .inl (0, 12, .inl (fun _ => 0)),
  .inl (0, 12, .inl (fun _ => 0)),
  .inl (0, 12, .inl (fun _ => 0)),
  .inl (0, 12, .inl (fun _ => 0)),
  .inr (7, [.ref 31, .ref 40, .int 0]),
  .inl (5, 8, .inr (.inr (.inr (.inr (fun i => if i < 8 then some (32 + i) else none))))),
  .inl (0, 4, .inl (fun _ => 0)),
  .inl (0, 4, .inl (fun _ => 0)),
  .inl (0, 4, .inl (fun _ => 0)),
  .inl (0, 4, .inl (fun _ => 0)),
  .inl (0, 4, .inl (fun _ => 0)),
  .inl (0, 4, .inl (fun _ => 0)),
  .inl (0, 4, .inl (fun _ => 0)),
  .inl (0, 4, .inl (fun _ => 0)),
  .inl (0, 8, .inl (fun _ => 0)),
  .inl (4, 6, .inr (.inr (.inr (.inr (fun _ => none))))),
  .inr (2, [.ref 43, .int 0, .ref 44, .int 0]),
  .inl (1, 128, .inr (.inl (fun _ => 0))),
  .inl (1, 32, .inr (.inl (fun _ => 0))),
  .inr (4, [.ref 46, .int 0, .ref 47]),
  .inl (2, 64, .inl (fun _ => 0)),
  .inl (2, 10, .inl (fun _ => 0)),
  .inr (9, [.int 0, .int 0, .int 0, .int 0, .int 0, .int 0, .int 0, .int (-1), .int 0]),
  .inr (3, [.ref 42, .ref 45, .ref 48, .ref 58, .ref 59, .ref 50, .ref 51, .ref 52, .int 0, .ref 53, .ref 54, .int 0, .ref 55, .ref 56, .ref 57, .int 0, .null, .int 0, .int 0]),
  .inl (1, 8, .inr (.inl (fun _ => 0))),
  .inl (3, 8, .inl (fun _ => 0)),
  .inl (1, 32, .inr (.inl (fun _ => 0))),
  .inl (0, 10, .inl (fun _ => 0)),
  .inl (0, 10, .inl (fun _ => 0)),
  .inl (0, 8, .inl (fun _ => 0)),
  .inl (0, 8, .inl (fun _ => 0)),
  .inl (0, 8, .inl (fun _ => 0)),
  .inr (8, [.ref 42, .int 0]),
  .inr (1, [.ref 42, .ref 60]),
  .inl (0, 64, .inl (fun _ => 0)),
  .inr (13, [.ref 62, .ref 63, .ref 64, .int 0, .int 0, .int 0, .int 0, .long 0, .int 0, .int 0, .int 0, .int 0, .int 0, .int 0, .int 0, .int 0, .ref 65, .ref 66, .ref 67, .ref 68, .ref 69, .ref 70, .int 0, .ref 71, .ref 72, .ref 73, .ref 74, .ref 75, .int 0, .int 0, .ref 76, .ref 77, .ref 78, .ref 79, .ref 80, .ref 81, .ref 82, .int 0, .ref 83, .ref 84, .ref 85, .ref 86, .ref 87, .ref 88, .int 0, .int (-1), .int (-1), .ref 89, .int 0, .ref 90, .ref 91, .int 0, .ref 92, .ref 93, .ref 94, .int 0, .int 0, .int 0, .ref 95, .ref 96, .int 0, .int 0, .int 0, .int 0, .int 0, .int 0, .int 0, .int (-1), .int 0, .int 0, .int 0, .ref 97, .ref 98, .int 0, .ref 99, .ref 100, .ref 101, .ref 102, .ref 103, .int 0, .ref 104, .ref 105, .ref 106, .ref 107, .null, .null, .null, .int 0, .int 0, .long 0]),
  .inl (1, 41, .inr (.inl (vp_updL (vp_updL (vp_updL (vp_updL (vp_updL (vp_updL (vp_updL (vp_updL (vp_updL (vp_updL (vp_updL (vp_updL (vp_updL (vp_updL (vp_updL (vp_updL (vp_updL (vp_updL (vp_updL (vp_updL (vp_updL (vp_updL (vp_updL (vp_updL (vp_updL (vp_updL (vp_updL (vp_updL (vp_updL (vp_updL (vp_updL (vp_updL (vp_updL (vp_updL (vp_updL (vp_updL (vp_updL (vp_updL (vp_updL (vp_updL (vp_updL (fun _ => 0) 0 176) 1 249) 2 107681) 3 12387497) 4 4797) 5 257) 6 13903) 7 261347000) 8 9592700) 9 15091) 10 419) 11 13550) 12 188623) 13 315749) 14 151150) 15 365869) 16 1887) 17 381245) 18 334901377) 19 223456) 20 14431) 21 9528) 22 9734) 23 376205) 24 385418) 25 4075223) 26 40187) 27 126893) 28 409469) 29 4085899) 30 208022) 31 394691) 32 92275) 33 2774) 34 321581) 35 125041) 36 11695) 37 8399691) 38 375062) 39 99233) 40 129361))),
  .inl (0, 30, .inl (fun _ => 0)),
  .inl (2, 1620, .inl (fun _ => 0)),
  .inl (1, 24, .inr (.inl (fun _ => 0))),
  .inl (0, 24, .inl (fun _ => 0)),
  .inl (0, 24, .inl (fun _ => 0)),
  .inl (0, 24, .inl (fun _ => 0)),
  .inl (0, 24, .inl (fun _ => 0)),
  .inl (1, 14, .inr (.inl (fun _ => 0))),
  .inl (0, 8000, .inl (fun _ => 0)),
  .inl (0, 8000, .inl (fun _ => 0)),
  .inl (0, 8000, .inl (fun _ => 0)),
  .inl (0, 8000, .inl (fun _ => 0)),
  .inl (0, 8000, .inl (fun _ => 0)),
  .inl (0, 800, .inl (fun _ => 0)),
  .inl (0, 800, .inl (fun _ => 0)),
  .inl (0, 800, .inl (fun _ => 0)),
  .inl (1, 800, .inr (.inl (fun _ => 0))),
  .inl (0, 12, .inl (fun _ => 0)),
  .inl (0, 12, .inl (fun _ => 0)),
  .inl (0, 12, .inl (fun _ => 0)),
  .inl (0, 80, .inl (fun _ => 0)),
  .inl (0, 80, .inl (fun _ => 0)),
  .inl (0, 80, .inl (fun _ => 0)),
  .inl (0, 80, .inl (fun _ => 0)),
  .inl (1, 80, .inr (.inl (fun _ => 0))),
  .inl (0, 80, .inl (fun _ => 0)),
  .inl (0, 166300, .inl (fun _ => 0)),
  .inl (0, 9000, .inl (fun _ => 0)),
  .inl (0, 9000, .inl (fun _ => 0)),
  .inl (0, 8, .inl (fun _ => 0)),
  .inl (0, 8, .inl (fun _ => 0)),
  .inl (0, 8, .inl (fun _ => 0)),
  .inl (0, 700, .inl (fun _ => 0)),
  .inl (0, 700, .inl (fun _ => 0)),
  .inl (0, 8, .inl (fun _ => 0)),
  .inl (0, 8, .inl (fun _ => 0)),
  .inl (0, 10, .inl (fun _ => 0)),
  .inl (0, 10, .inl (fun _ => 0)),
  .inl (0, 10, .inl (fun _ => 0)),
  .inl (0, 140, .inl (fun _ => 0)),
  .inl (0, 140, .inl (fun _ => 0)),
  .inl (0, 400, .inl (fun _ => 0)),
  .inl (0, 400, .inl (fun _ => 0)),
  .inl (0, 400, .inl (fun _ => 0)),
  .inl (0, 400, .inl (fun _ => 0)),
  .inl (0, 400, .inl (fun _ => 0))]
set_option maxRecDepth 100000 in
theorem zv_2_11 : (fun X : Nat → Option zz_C => zz_go zt_tf zt_fd X 40 zm_56 607 [(0, .ref 61)] [.ref 98, .ref 61] zv_m10) = (fun _ => some ((694, [(0, .ref 61)], [.ref 108, .ref 61]), zv_m11)) := by rfl
def zv_m12 : zz_H := [.inr (12, [.ref 1, .int 0, .ref 2, .ref 12, .ref 21, .int (-1), .int (-1), .ref 30, .ref 41, .int 0, .ref 42, .ref 45, .ref 48, .ref 49]),
  .inl (2, 320, .inl (fun _ => 0)),
  .inr (5, [.ref 3, .null, .int 0, .ref 7, .int 0, .ref 8, .ref 9, .ref 10, .ref 11, .int 0, .int 0, .int 0]),
  .inr (10, [.ref 4, .ref 5, .ref 6, .int 0, .int 0, .int 0, .int 0, .long 0]),
  .inl (0, 32, .inl (fun _ => 0)),
  .inl (0, 32, .inl (fun _ => 0)),
  .inl (1, 32, .inr (.inl (fun _ => 0))),
  .inl (1, 14, .inr (.inl (fun _ => 0))),
  .inl (0, 8, .inl (fun _ => 0)),
  .inl (1, 8, .inr (.inl (fun _ => 0))),
  .inl (0, 8, .inl (fun _ => 0)),
  .inl (0, 8, .inl (fun _ => 0)),
  .inr (6, [.ref 13, .ref 14, .ref 15, .int 0, .int 0, .ref 16, .ref 17, .ref 18, .ref 19, .ref 20]),
  .inl (0, 32, .inl (fun _ => 0)),
  .inl (0, 32, .inl (fun _ => 0)),
  .inl (0, 32, .inl (fun _ => 0)),
  .inl (1, 12, .inr (.inl (fun _ => 0))),
  .inl (0, 12, .inl (fun _ => 0)),
  .inl (0, 12, .inl (fun _ => 0)),
  .inl (0, 12, .inl (fun _ => 0)),
  .inl (0, 12, .inl (fun _ => 0)),
  .inr (6, [.ref 22, .ref 23, .ref 24, .int 0, .int 0, .ref 25, .ref 26, .ref 27, .ref 28, .ref 29]),
  .inl (0, 32, .inl (fun _ => 0)),
  .inl (0, 32, .inl (fun _ => 0)),
  .inl (0, 32, .inl (fun _ => 0)),
  .inl (1, 12, .inr (.inl (fun _ => 0))),
  .inl (0, 12, .inl (fun _ => 0)),
  .inl (0, 12, .inl (fun _ => 0)),
  .inl (0, 12, .inl (fun _ => 0)),
  .inl (0, 12, .inl (fun _ => 0)),
  .inr (7, [.ref 31, .ref 40, .int 0]),
  .inl (5, 8, .inr (.inr (.inr (.inr (fun i => if i < 8 then some (32 + i) else none))))),
  .inl (0, 4, .inl (fun _ => 0)),
  .inl (0, 4, .inl (fun _ => 0)),
  .inl (0, 4, .inl (fun _ => 0)),
  .inl (0, 4, .inl (fun _ => 0)),
  .inl (0, 4, .inl (fun _ => 0)),
  .inl (0, 4, .inl (fun _ => 0)),
  .inl (0, 4, .inl (fun _ => 0)),
  .inl (0, 4, .inl (fun _ => 0)),
  .inl (0, 8, .inl (fun _ => 0)),
  .inl (4, 6, .inr (.inr (.inr (.inr (fun _ => none))))),
  .inr (2, [.ref 43, .int 0, .ref 44, .int 0]),
  .inl (1, 128, .inr (.inl (fun _ => 0))),
  .inl (1, 32, .inr (.inl (fun _ => 0))),
  .inr (4, [.ref 46, .int 0, .ref 47]),
  .inl (2, 64, .inl (fun _ => 0)),
  .inl (2, 10, .inl (fun _ => 0)),
  .inr (9, [.int 0, .int 0, .int 0, .int 0, .int 0, .int 0, .int 0, .int (-1), .int 0]),
  .inr (3, [.ref 42, .ref 45, .ref 48, .ref 58, .ref 59, .ref 50, .ref 51, .ref 52, .int 0, .ref 53, .ref 54, .int 0, .ref 55, .ref 56, .ref 57, .int 0, .null, .int 0, .int 0]),
  .inl (1, 8, .inr (.inl (fun _ => 0))),
  .inl (3, 8, .inl (fun _ => 0)),
  .inl (1, 32, .inr (.inl (fun _ => 0))),
  .inl (0, 10, .inl (fun _ => 0)),
  .inl (0, 10, .inl (fun _ => 0)),
  .inl (0, 8, .inl (fun _ => 0)),
  .inl (0, 8, .inl (fun _ => 0)),
  .inl (0, 8, .inl (fun _ => 0)),
  .inr (8, [.ref 42, .int 0]),
  .inr (1, [.ref 42, .ref 60]),
  .inl (0, 64, .inl (fun _ => 0)),
  .inr (13, [.ref 62, .ref 63, .ref 64, .int 0, .int 0, .int 0, .int 0, .long 0, .int 0, .int 0, .int 0, .int 0, .int 0, .int 0, .int 0, .int 0, .ref 65, .ref 66, .ref 67, .ref 68, .ref 69, .ref 70, .int 0, .ref 71, .ref 72, .ref 73, .ref 74, .ref 75, .int 0, .int 0, .ref 76, .ref 77, .ref 78, .ref 79, .ref 80, .ref 81, .ref 82, .int 0, .ref 83, .ref 84, .ref 85, .ref 86, .ref 87, .ref 88, .int 0, .int (-1), .int (-1), .ref 89, .int 0, .ref 90, .ref 91, .int 0, .ref 92, .ref 93, .ref 94, .int 0, .int 0, .int 0, .ref 95, .ref 96, .int 0, .int 0, .int 0, .int 0, .int 0, .int 0, .int 0, .int (-1), .int 0, .int 0, .int 0, .ref 97, .ref 98, .int 0, .ref 99, .ref 100, .ref 101, .ref 102, .ref 103, .int 0, .ref 104, .ref 105, .ref 106, .ref 107, .ref 108, .ref 109, .ref 110, .int 0, .int 0, .long 0]),
  .inl (1, 41, .inr (.inl (vp_updL (vp_updL (vp_updL (vp_updL (vp_updL (vp_updL (vp_updL (vp_updL (vp_updL (vp_updL (vp_updL (vp_updL (vp_updL (vp_updL (vp_updL (vp_updL (vp_updL (vp_updL (vp_updL (vp_updL (vp_updL (vp_updL (vp_updL (vp_updL (vp_updL (vp_updL (vp_updL (vp_updL (vp_updL (vp_updL (vp_updL (vp_updL (vp_updL (vp_updL (vp_updL (vp_updL (vp_updL (vp_updL (vp_updL (vp_updL (vp_updL (fun _ => 0) 0 176) 1 249) 2 107681) 3 12387497) 4 4797) 5 257) 6 13903) 7 261347000) 8 9592700) 9 15091) 10 419) 11 13550) 12 188623) 13 315749) 14 151150) 15 365869) 16 1887) 17 381245) 18 334901377) 19 223456) 20 14431) 21 9528) 22 9734) 23 376205) 24 385418) 25 4075223) 26 40187) 27 126893) 28 409469) 29 4085899) 30 208022) 31 394691) 32 92275) 33 2774) 34 321581) 35 125041) 36 11695) 37 8399691) 38 375062) 39 99233) 40 129361))),
  .inl (0, 30, .inl (upd (fun _ => 0) 0 1)),
  .inl (2, 1620, .inl (fun _ => 0)),
  .inl (1, 24, .inr (.inl (fun _ => 0))),
  .inl (0, 24, .inl (fun _ => 0)),
  .inl (0, 24, .inl (fun _ => 0)),
  .inl (0, 24, .inl (fun _ => 0)),
  .inl (0, 24, .inl (fun _ => 0)),
  .inl (1, 14, .inr (.inl (fun _ => 0))),
  .inl (0, 8000, .inl (fun _ => 0)),
  .inl (0, 8000, .inl (fun _ => 0)),
  .inl (0, 8000, .inl (fun _ => 0)),
  .inl (0, 8000, .inl (fun _ => 0)),
  .inl (0, 8000, .inl (fun _ => 0)),
  .inl (0, 800, .inl (fun _ => 0)),
  .inl (0, 800, .inl (fun _ => 0)),
  .inl (0, 800, .inl (fun _ => 0)),
  .inl (1, 800, .inr (.inl (fun _ => 0))),
  .inl (0, 12, .inl (fun _ => 0)),
  .inl (0, 12, .inl (fun _ => 0)),
  .inl (0, 12, .inl (fun _ => 0)),
  .inl (0, 80, .inl (fun _ => 0)),
  .inl (0, 80, .inl (fun _ => 0)),
  .inl (0, 80, .inl (fun _ => 0)),
  .inl (0, 80, .inl (fun _ => 0)),
  .inl (1, 80, .inr (.inl (fun _ => 0))),
  .inl (0, 80, .inl (fun _ => 0)),
  .inl (0, 166300, .inl (fun _ => 0)),
  .inl (0, 9000, .inl (fun _ => 0)),
  .inl (0, 9000, .inl (fun _ => 0)),
  .inl (0, 8, .inl (fun _ => 0)),
  .inl (0, 8, .inl (fun _ => 0)),
  .inl (0, 8, .inl (fun _ => 0)),
  .inl (0, 700, .inl (fun _ => 0)),
  .inl (0, 700, .inl (fun _ => 0)),
  .inl (0, 8, .inl (fun _ => 0)),
  .inl (0, 8, .inl (fun _ => 0)),
  .inl (0, 10, .inl (fun _ => 0)),
  .inl (0, 10, .inl (fun _ => 0)),
  .inl (0, 10, .inl (fun _ => 0)),
  .inl (0, 140, .inl (fun _ => 0)),
  .inl (0, 140, .inl (fun _ => 0)),
  .inl (0, 400, .inl (fun _ => 0)),
  .inl (0, 400, .inl (fun _ => 0)),
  .inl (0, 400, .inl (fun _ => 0)),
  .inl (0, 400, .inl (fun _ => 0)),
  .inl (0, 400, .inl (fun _ => 0)),
  .inl (0, 400, .inl (fun _ => 0)),
  .inl (2, 600, .inl (fun _ => 0))]
set_option maxRecDepth 100000 in
theorem zv_2_12 : (fun X : Nat → Option zz_C => zz_go zt_tf zt_fd X 40 zm_56 694 [(0, .ref 61)] [.ref 108, .ref 61] zv_m11) = (fun _ => some ((744, [(1, .int 1), (0, .ref 61)], [.int 1, .int 1, .ref 63]), zv_m12)) := by rfl
def zv_m13 : zz_H := [.inr (12, [.ref 1, .int 0, .ref 2, .ref 12, .ref 21, .int (-1), .int (-1), .ref 30, .ref 41, .int 0, .ref 42, .ref 45, .ref 48, .ref 49]),
  .inl (2, 320, .inl (fun _ => 0)),
  .inr (5, [.ref 3, .null, .int 0, .ref 7, .int 0, .ref 8, .ref 9, .ref 10, .ref 11, .int 0, .int 0, .int 0]),
  .inr (10, [.ref 4, .ref 5, .ref 6, .int 0, .int 0, .int 0, .int 0, .long 0]),
  .inl (0, 32, .inl (fun _ => 0)),
  .inl (0, 32, .inl (fun _ => 0)),
  .inl (1, 32, .inr (.inl (fun _ => 0))),
  .inl (1, 14, .inr (.inl (fun _ => 0))),
  .inl (0, 8, .inl (fun _ => 0)),
  .inl (1, 8, .inr (.inl (fun _ => 0))),
  .inl (0, 8, .inl (fun _ => 0)),
  .inl (0, 8, .inl (fun _ => 0)),
  .inr (6, [.ref 13, .ref 14, .ref 15, .int 0, .int 0, .ref 16, .ref 17, .ref 18, .ref 19, .ref 20]),
  .inl (0, 32, .inl (fun _ => 0)),
  .inl (0, 32, .inl (fun _ => 0)),
  .inl (0, 32, .inl (fun _ => 0)),
  .inl (1, 12, .inr (.inl (fun _ => 0))),
  .inl (0, 12, .inl (fun _ => 0)),
  .inl (0, 12, .inl (fun _ => 0)),
  .inl (0, 12, .inl (fun _ => 0)),
  .inl (0, 12, .inl (fun _ => 0)),
  .inr (6, [.ref 22, .ref 23, .ref 24, .int 0, .int 0, .ref 25, .ref 26, .ref 27, .ref 28, .ref 29]),
  .inl (0, 32, .inl (fun _ => 0)),
  .inl (0, 32, .inl (fun _ => 0)),
  .inl (0, 32, .inl (fun _ => 0)),
  .inl (1, 12, .inr (.inl (fun _ => 0))),
  .inl (0, 12, .inl (fun _ => 0)),
  .inl (0, 12, .inl (fun _ => 0)),
  .inl (0, 12, .inl (fun _ => 0)),
  .inl (0, 12, .inl (fun _ => 0)),
  .inr (7, [.ref 31, .ref 40, .int 0]),
  .inl (5, 8, .inr (.inr (.inr (.inr (fun i => if i < 8 then some (32 + i) else none))))),
  .inl (0, 4, .inl (fun _ => 0)),
  .inl (0, 4, .inl (fun _ => 0)),
  .inl (0, 4, .inl (fun _ => 0)),
  .inl (0, 4, .inl (fun _ => 0)),
  .inl (0, 4, .inl (fun _ => 0)),
  .inl (0, 4, .inl (fun _ => 0)),
  .inl (0, 4, .inl (fun _ => 0)),
  .inl (0, 4, .inl (fun _ => 0)),
  .inl (0, 8, .inl (fun _ => 0)),
  .inl (4, 6, .inr (.inr (.inr (.inr (fun _ => none))))),
  .inr (2, [.ref 43, .int 0, .ref 44, .int 0]),
  .inl (1, 128, .inr (.inl (fun _ => 0))),
  .inl (1, 32, .inr (.inl (fun _ => 0))),
  .inr (4, [.ref 46, .int 0, .ref 47]),
  .inl (2, 64, .inl (fun _ => 0)),
  .inl (2, 10, .inl (fun _ => 0)),
  .inr (9, [.int 0, .int 0, .int 0, .int 0, .int 0, .int 0, .int 0, .int (-1), .int 0]),
  .inr (3, [.ref 42, .ref 45, .ref 48, .ref 58, .ref 59, .ref 50, .ref 51, .ref 52, .int 0, .ref 53, .ref 54, .int 0, .ref 55, .ref 56, .ref 57, .int 0, .null, .int 0, .int 0]),
  .inl (1, 8, .inr (.inl (fun _ => 0))),
  .inl (3, 8, .inl (fun _ => 0)),
  .inl (1, 32, .inr (.inl (fun _ => 0))),
  .inl (0, 10, .inl (fun _ => 0)),
  .inl (0, 10, .inl (fun _ => 0)),
  .inl (0, 8, .inl (fun _ => 0)),
  .inl (0, 8, .inl (fun _ => 0)),
  .inl (0, 8, .inl (fun _ => 0)),
  .inr (8, [.ref 42, .int 0]),
  .inr (1, [.ref 42, .ref 60]),
  .inl (0, 64, .inl (fun _ => 0)),
  .inr (13, [.ref 62, .ref 63, .ref 64, .int 0, .int 0, .int 0, .int 0, .long 0, .int 0, .int 0, .int 0, .int 0, .int 0, .int 0, .int 0, .int 0, .ref 65, .ref 66, .ref 67, .ref 68, .ref 69, .ref 70, .int 0, .ref 71, .ref 72, .ref 73, .ref 74, .ref 75, .int 0, .int 0, .ref 76, .ref 77, .ref 78, .ref 79, .ref 80, .ref 81, .ref 82, .int 0, .ref 83, .ref 84, .ref 85, .ref 86, .ref 87, .ref 88, .int 0, .int (-1), .int (-1), .ref 89, .int 0, .ref 90, .ref 91, .int 0, .ref 92, .ref 93, .ref 94, .int 0, .int 0, .int 0, .ref 95, .ref 96, .int 0, .int 0, .int 0, .int 0, .int 0, .int 0, .int 0, .int (-1), .int 0, .int 0, .int 0, .ref 97, .ref 98, .int 0, .ref 99, .ref 100, .ref 101, .ref 102, .ref 103, .int 0, .ref 104, .ref 105, .ref 106, .ref 107, .ref 108, .ref 109, .ref 110, .int 0, .int 0, .long 0]),
  .inl (1, 41, .inr (.inl (vp_updL (vp_updL (vp_updL (vp_updL (vp_updL (vp_updL (vp_updL (vp_updL (vp_updL (vp_updL (vp_updL (vp_updL (vp_updL (vp_updL (vp_updL (vp_updL (vp_updL (vp_updL (vp_updL (vp_updL (vp_updL (vp_updL (vp_updL (vp_updL (vp_updL (vp_updL (vp_updL (vp_updL (vp_updL (vp_updL (vp_updL (vp_updL (vp_updL (vp_updL (vp_updL (vp_updL (vp_updL (vp_updL (vp_updL (vp_updL (vp_updL (fun _ => 0) 0 176) 1 249) 2 107681) 3 12387497) 4 4797) 5 257) 6 13903) 7 261347000) 8 9592700) 9 15091) 10 419) 11 13550) 12 188623) 13 315749) 14 151150) 15 365869) 16 1887) 17 381245) 18 334901377) 19 223456) 20 14431) 21 9528) 22 9734) 23 376205) 24 385418) 25 4075223) 26 40187) 27 126893) 28 409469) 29 4085899) 30 208022) 31 394691) 32 92275) 33 2774) 34 321581) 35 125041) 36 11695) 37 8399691) 38 375062) 39 99233) 40 129361))),
  .inl (0, 30, .inl (upd (upd (upd (upd (fun _ => 0) 0 1) 1 1) 2 1) 3 2)),
  .inl (2, 1620, .inl (fun _ => 0)),
  .inl (1, 24, .inr (.inl (fun _ => 0))),
  .inl (0, 24, .inl (fun _ => 0)),
  .inl (0, 24, .inl (fun _ => 0)),
  .inl (0, 24, .inl (fun _ => 0)),
  .inl (0, 24, .inl (fun _ => 0)),
  .inl (1, 14, .inr (.inl (fun _ => 0))),
  .inl (0, 8000, .inl (fun _ => 0)),
  .inl (0, 8000, .inl (fun _ => 0)),
  .inl (0, 8000, .inl (fun _ => 0)),
  .inl (0, 8000, .inl (fun _ => 0)),
  .inl (0, 8000, .inl (fun _ => 0)),
  .inl (0, 800, .inl (fun _ => 0)),
  .inl (0, 800, .inl (fun _ => 0)),
  .inl (0, 800, .inl (fun _ => 0)),
  .inl (1, 800, .inr (.inl (fun _ => 0))),
  .inl (0, 12, .inl (fun _ => 0)),
  .inl (0, 12, .inl (fun _ => 0)),
  .inl (0, 12, .inl (fun _ => 0)),
  .inl (0, 80, .inl (fun _ => 0)),
  .inl (0, 80, .inl (fun _ => 0)),
  .inl (0, 80, .inl (fun _ => 0)),
  .inl (0, 80, .inl (fun _ => 0)),
  .inl (1, 80, .inr (.inl (fun _ => 0))),
  .inl (0, 80, .inl (fun _ => 0)),
  .inl (0, 166300, .inl (fun _ => 0)),
  .inl (0, 9000, .inl (fun _ => 0)),
  .inl (0, 9000, .inl (fun _ => 0)),
  .inl (0, 8, .inl (fun _ => 0)),
  .inl (0, 8, .inl (fun _ => 0)),
  .inl (0, 8, .inl (fun _ => 0)),
  .inl (0, 700, .inl (fun _ => 0)),
  .inl (0, 700, .inl (fun _ => 0)),
  .inl (0, 8, .inl (fun _ => 0)),
  .inl (0, 8, .inl (fun _ => 0)),
  .inl (0, 10, .inl (fun _ => 0)),
  .inl (0, 10, .inl (fun _ => 0)),
  .inl (0, 10, .inl (fun _ => 0)),
  .inl (0, 140, .inl (fun _ => 0)),
  .inl (0, 140, .inl (fun _ => 0)),
  .inl (0, 400, .inl (fun _ => 0)),
  .inl (0, 400, .inl (fun _ => 0)),
  .inl (0, 400, .inl (fun _ => 0)),
  .inl (0, 400, .inl (fun _ => 0)),
  .inl (0, 400, .inl (fun _ => 0)),
  .inl (0, 400, .inl (fun _ => 0)),
  .inl (2, 600, .inl (fun _ => 0))]
set_option maxRecDepth 100000 in
theorem zv_2_13 : (fun X : Nat → Option zz_C => zz_go zt_tf zt_fd X 40 zm_56 744 [(1, .int 1), (0, .ref 61)] [.int 1, .int 1, .ref 63] zv_m12) = (fun _ => some ((729, [(1, .int 4), (0, .ref 61)], [.int 4, .int 4, .ref 63]), zv_m13)) := by rfl
def zv_m14 : zz_H := [.inr (12, [.ref 1, .int 0, .ref 2, .ref 12, .ref 21, .int (-1), .int (-1), .ref 30, .ref 41, .int 0, .ref 42, .ref 45, .ref 48, .ref 49]),
  .inl (2, 320, .inl (fun _ => 0)),
  .inr (5, [.ref 3, .null, .int 0, .ref 7, .int 0, .ref 8, .ref 9, .ref 10, .ref 11, .int 0, .int 0, .int 0]),
  .inr (10, [.ref 4, .ref 5, .ref 6, .int 0, .int 0, .int 0, .int 0, .long 0]),
  .inl (0, 32, .inl (fun _ => 0)),
  .inl (0, 32, .inl (fun _ => 0)),
  .inl (1, 32, .inr (.inl (fun _ => 0))),
  .inl (1, 14, .inr (.inl (fun _ => 0))),
  .inl (0, 8, .inl (fun _ => 0)),
  .inl (1, 8, .inr (.inl (fun _ => 0))),
  .inl (0, 8, .inl (fun _ => 0)),
  .inl (0, 8, .inl (fun _ => 0)),
  .inr (6, [.ref 13, .ref 14, .ref 15, .int 0, .int 0, .ref 16, .ref 17, .ref 18, .ref 19, .ref 20]),
  .inl (0, 32, .inl (fun _ => 0)),
  .inl (0, 32, .inl (fun _ => 0)),
  .inl (0, 32, .inl (fun _ => 0)),
  .inl (1, 12, .inr (.inl (fun _ => 0))),
  .inl (0, 12, .inl (fun _ => 0)),
  .inl (0, 12, .inl (fun _ => 0)),
  .inl (0, 12, .inl (fun _ => 0)),
  .inl (0, 12, .inl (fun _ => 0)),
  .inr (6, [.ref 22, .ref 23, .ref 24, .int 0, .int 0, .ref 25, .ref 26, .ref 27, .ref 28, .ref 29]),
  .inl (0, 32, .inl (fun _ => 0)),
  .inl (0, 32, .inl (fun _ => 0)),
  .inl (0, 32, .inl (fun _ => 0)),
  .inl (1, 12, .inr (.inl (fun _ => 0))),
  .inl (0, 12, .inl (fun _ => 0)),
  .inl (0, 12, .inl (fun _ => 0)),
  .inl (0, 12, .inl (fun _ => 0)),
  .inl (0, 12, .inl (fun _ => 0)),
  .inr (7, [.ref 31, .ref 40, .int 0]),
  .inl (5, 8, .inr (.inr (.inr (.inr (fun i => if i < 8 then some (32 + i) else none))))),
  .inl (0, 4, .inl (fun _ => 0)),
  .inl (0, 4, .inl (fun _ => 0)),
  .inl (0, 4, .inl (fun _ => 0)),
  .inl (0, 4, .inl (fun _ => 0)),
  .inl (0, 4, .inl (fun _ => 0)),
  .inl (0, 4, .inl (fun _ => 0)),
  .inl (0, 4, .inl (fun _ => 0)),
  .inl (0, 4, .inl (fun _ => 0)),
  .inl (0, 8, .inl (fun _ => 0)),
  .inl (4, 6, .inr (.inr (.inr (.inr (fun _ => none))))),
  .inr (2, [.ref 43, .int 0, .ref 44, .int 0]),
  .inl (1, 128, .inr (.inl (fun _ => 0))),
  .inl (1, 32, .inr (.inl (fun _ => 0))),
  .inr (4, [.ref 46, .int 0, .ref 47]),
  .inl (2, 64, .inl (fun _ => 0)),
  .inl (2, 10, .inl (fun _ => 0)),
  .inr (9, [.int 0, .int 0, .int 0, .int 0, .int 0, .int 0, .int 0, .int (-1), .int 0]),
  .inr (3, [.ref 42, .ref 45, .ref 48, .ref 58, .ref 59, .ref 50, .ref 51, .ref 52, .int 0, .ref 53, .ref 54, .int 0, .ref 55, .ref 56, .ref 57, .int 0, .null, .int 0, .int 0]),
  .inl (1, 8, .inr (.inl (fun _ => 0))),
  .inl (3, 8, .inl (fun _ => 0)),
  .inl (1, 32, .inr (.inl (fun _ => 0))),
  .inl (0, 10, .inl (fun _ => 0)),
  .inl (0, 10, .inl (fun _ => 0)),
  .inl (0, 8, .inl (fun _ => 0)),
  .inl (0, 8, .inl (fun _ => 0)),
  .inl (0, 8, .inl (fun _ => 0)),
  .inr (8, [.ref 42, .int 0]),
  .inr (1, [.ref 42, .ref 60]),
  .inl (0, 64, .inl (fun _ => 0)),
  .inr (13, [.ref 62, .ref 63, .ref 64, .int 0, .int 0, .int 0, .int 0, .long 0, .int 0, .int 0, .int 0, .int 0, .int 0, .int 0, .int 0, .int 0, .ref 65, .ref 66, .ref 67, .ref 68, .ref 69, .ref 70, .int 0, .ref 71, .ref 72, .ref 73, .ref 74, .ref 75, .int 0, .int 0, .ref 76, .ref 77, .ref 78, .ref 79, .ref 80, .ref 81, .ref 82, .int 0, .ref 83, .ref 84, .ref 85, .ref 86, .ref 87, .ref 88, .int 0, .int (-1), .int (-1), .ref 89, .int 0, .ref 90, .ref 91, .int 0, .ref 92, .ref 93, .ref 94, .int 0, .int 0, .int 0, .ref 95, .ref 96, .int 0, .int 0, .int 0, .int 0, .int 0, .int 0, .int 0, .int (-1), .int 0, .int 0, .int 0, .ref 97, .ref 98, .int 0, .ref 99, .ref 100, .ref 101, .ref 102, .ref 103, .int 0, .ref 104, .ref 105, .ref 106, .ref 107, .ref 108, .ref 109, .ref 110, .int 0, .int 0, .long 0]),
  .inl (1, 41, .inr (.inl (vp_updL (vp_updL (vp_updL (vp_updL (vp_updL (vp_updL (vp_updL (vp_updL (vp_updL (vp_updL (vp_updL (vp_updL (vp_updL (vp_updL (vp_updL (vp_updL (vp_updL (vp_updL (vp_updL (vp_updL (vp_updL (vp_updL (vp_updL (vp_updL (vp_updL (vp_updL (vp_updL (vp_updL (vp_updL (vp_updL (vp_updL (vp_updL (vp_updL (vp_updL (vp_updL (vp_updL (vp_updL (vp_updL (vp_updL (vp_updL (vp_updL (fun _ => 0) 0 176) 1 249) 2 107681) 3 12387497) 4 4797) 5 257) 6 13903) 7 261347000) 8 9592700) 9 15091) 10 419) 11 13550) 12 188623) 13 315749) 14 151150) 15 365869) 16 1887) 17 381245) 18 334901377) 19 223456) 20 14431) 21 9528) 22 9734) 23 376205) 24 385418) 25 4075223) 26 40187) 27 126893) 28 409469) 29 4085899) 30 208022) 31 394691) 32 92275) 33 2774) 34 321581) 35 125041) 36 11695) 37 8399691) 38 375062) 39 99233) 40 129361))),
  .inl (0, 30, .inl (upd (upd (upd (upd (upd (upd (upd (fun _ => 0) 0 1) 1 1) 2 1) 3 2) 4 1) 5 1) 6 1)),
  .inl (2, 1620, .inl (fun _ => 0)),
  .inl (1, 24, .inr (.inl (fun _ => 0))),
  .inl (0, 24, .inl (fun _ => 0)),
  .inl (0, 24, .inl (fun _ => 0)),
  .inl (0, 24, .inl (fun _ => 0)),
  .inl (0, 24, .inl (fun _ => 0)),
  .inl (1, 14, .inr (.inl (fun _ => 0))),
  .inl (0, 8000, .inl (fun _ => 0)),
  .inl (0, 8000, .inl (fun _ => 0)),
  .inl (0, 8000, .inl (fun _ => 0)),
  .inl (0, 8000, .inl (fun _ => 0)),
  .inl (0, 8000, .inl (fun _ => 0)),
  .inl (0, 800, .inl (fun _ => 0)),
  .inl (0, 800, .inl (fun _ => 0)),
  .inl (0, 800, .inl (fun _ => 0)),
  .inl (1, 800, .inr (.inl (fun _ => 0))),
  .inl (0, 12, .inl (fun _ => 0)),
  .inl (0, 12, .inl (fun _ => 0)),
  .inl (0, 12, .inl (fun _ => 0)),
  .inl (0, 80, .inl (fun _ => 0)),
  .inl (0, 80, .inl (fun _ => 0)),
  .inl (0, 80, .inl (fun _ => 0)),
  .inl (0, 80, .inl (fun _ => 0)),
  .inl (1, 80, .inr (.inl (fun _ => 0))),
  .inl (0, 80, .inl (fun _ => 0)),
  .inl (0, 166300, .inl (fun _ => 0)),
  .inl (0, 9000, .inl (fun _ => 0)),
  .inl (0, 9000, .inl (fun _ => 0)),
  .inl (0, 8, .inl (fun _ => 0)),
  .inl (0, 8, .inl (fun _ => 0)),
  .inl (0, 8, .inl (fun _ => 0)),
  .inl (0, 700, .inl (fun _ => 0)),
  .inl (0, 700, .inl (fun _ => 0)),
  .inl (0, 8, .inl (fun _ => 0)),
  .inl (0, 8, .inl (fun _ => 0)),
  .inl (0, 10, .inl (fun _ => 0)),
  .inl (0, 10, .inl (fun _ => 0)),
  .inl (0, 10, .inl (fun _ => 0)),
  .inl (0, 140, .inl (fun _ => 0)),
  .inl (0, 140, .inl (fun _ => 0)),
  .inl (0, 400, .inl (fun _ => 0)),
  .inl (0, 400, .inl (fun _ => 0)),
  .inl (0, 400, .inl (fun _ => 0)),
  .inl (0, 400, .inl (fun _ => 0)),
  .inl (0, 400, .inl (fun _ => 0)),
  .inl (0, 400, .inl (fun _ => 0)),
  .inl (2, 600, .inl (fun _ => 0))]
set_option maxRecDepth 100000 in
theorem zv_2_14 : (fun X : Nat → Option zz_C => zz_go zt_tf zt_fd X 40 zm_56 729 [(1, .int 4), (0, .ref 61)] [.int 4, .int 4, .ref 63] zv_m13) = (fun _ => some ((748, [(1, .int 7), (0, .ref 61)], []), zv_m14)) := by rfl
def zv_m15 : zz_H := [.inr (12, [.ref 1, .int 0, .ref 2, .ref 12, .ref 21, .int (-1), .int (-1), .ref 30, .ref 41, .int 0, .ref 42, .ref 45, .ref 48, .ref 49]),
  .inl (2, 320, .inl (fun _ => 0)),
  .inr (5, [.ref 3, .null, .int 0, .ref 7, .int 0, .ref 8, .ref 9, .ref 10, .ref 11, .int 0, .int 0, .int 0]),
  .inr (10, [.ref 4, .ref 5, .ref 6, .int 0, .int 0, .int 0, .int 0, .long 0]),
  .inl (0, 32, .inl (fun _ => 0)),
  .inl (0, 32, .inl (fun _ => 0)),
  .inl (1, 32, .inr (.inl (fun _ => 0))),
  .inl (1, 14, .inr (.inl (fun _ => 0))),
  .inl (0, 8, .inl (fun _ => 0)),
  .inl (1, 8, .inr (.inl (fun _ => 0))),
  .inl (0, 8, .inl (fun _ => 0)),
  .inl (0, 8, .inl (fun _ => 0)),
  .inr (6, [.ref 13, .ref 14, .ref 15, .int 0, .int 0, .ref 16, .ref 17, .ref 18, .ref 19, .ref 20]),
  .inl (0, 32, .inl (fun _ => 0)),
  .inl (0, 32, .inl (fun _ => 0)),
  .inl (0, 32, .inl (fun _ => 0)),
  .inl (1, 12, .inr (.inl (fun _ => 0))),
  .inl (0, 12, .inl (fun _ => 0)),
  .inl (0, 12, .inl (fun _ => 0)),
  .inl (0, 12, .inl (fun _ => 0)),
  .inl (0, 12, .inl (fun _ => 0)),
  .inr (6, [.ref 22, .ref 23, .ref 24, .int 0, .int 0, .ref 25, .ref 26, .ref 27, .ref 28, .ref 29]),
  .inl (0, 32, .inl (fun _ => 0)),
  .inl (0, 32, .inl (fun _ => 0)),
  .inl (0, 32, .inl (fun _ => 0)),
  .inl (1, 12, .inr (.inl (fun _ => 0))),
  .inl (0, 12, .inl (fun _ => 0)),
  .inl (0, 12, .inl (fun _ => 0)),
  .inl (0, 12, .inl (fun _ => 0)),
  .inl (0, 12, .inl (fun _ => 0)),
  .inr (7, [.ref 31, .ref 40, .int 0]),
  .inl (5, 8, .inr (.inr (.inr (.inr (fun i => if i < 8 then some (32 + i) else none))))),
  .inl (0, 4, .inl (fun _ => 0)),
  .inl (0, 4, .inl (fun _ => 0)),
  .inl (0, 4, .inl (fun _ => 0)),
  .inl (0, 4, .inl (fun _ => 0)),
  .inl (0, 4, .inl (fun _ => 0)),
  .inl (0, 4, .inl (fun _ => 0)),
  .inl (0, 4, .inl (fun _ => 0)),
  .inl (0, 4, .inl (fun _ => 0)),
  .inl (0, 8, .inl (fun _ => 0)),
  .inl (4, 6, .inr (.inr (.inr (.inr (fun _ => none))))),
  .inr (2, [.ref 43, .int 0, .ref 44, .int 0]),
  .inl (1, 128, .inr (.inl (fun _ => 0))),
  .inl (1, 32, .inr (.inl (fun _ => 0))),
  .inr (4, [.ref 46, .int 0, .ref 47]),
  .inl (2, 64, .inl (fun _ => 0)),
  .inl (2, 10, .inl (fun _ => 0)),
  .inr (9, [.int 0, .int 0, .int 0, .int 0, .int 0, .int 0, .int 0, .int (-1), .int 0]),
  .inr (3, [.ref 42, .ref 45, .ref 48, .ref 58, .ref 59, .ref 50, .ref 51, .ref 52, .int 0, .ref 53, .ref 54, .int 0, .ref 55, .ref 56, .ref 57, .int 0, .null, .int 0, .int 0]),
  .inl (1, 8, .inr (.inl (fun _ => 0))),
  .inl (3, 8, .inl (fun _ => 0)),
  .inl (1, 32, .inr (.inl (fun _ => 0))),
  .inl (0, 10, .inl (fun _ => 0)),
  .inl (0, 10, .inl (fun _ => 0)),
  .inl (0, 8, .inl (fun _ => 0)),
  .inl (0, 8, .inl (fun _ => 0)),
  .inl (0, 8, .inl (fun _ => 0)),
  .inr (8, [.ref 42, .int 0]),
  .inr (1, [.ref 42, .ref 60]),
  .inl (0, 64, .inl (fun _ => 0)),
  .inr (13, [.ref 62, .ref 63, .ref 64, .int 0, .int 0, .int 0, .int 0, .long 0, .int 0, .int 0, .int 0, .int 0, .int 0, .int 0, .int 0, .int 0, .ref 65, .ref 66, .ref 67, .ref 68, .ref 69, .ref 70, .int 0, .ref 71, .ref 72, .ref 73, .ref 74, .ref 75, .int 0, .int 0, .ref 76, .ref 77, .ref 78, .ref 79, .ref 80, .ref 81, .ref 82, .int 0, .ref 83, .ref 84, .ref 85, .ref 86, .ref 87, .ref 88, .int 0, .int (-1), .int (-1), .ref 89, .int 0, .ref 90, .ref 91, .int 0, .ref 92, .ref 93, .ref 94, .int 0, .int 0, .int 0, .ref 95, .ref 96, .int 0, .int 0, .int 0, .int 0, .int 0, .int 0, .int 0, .int (-1), .int 0, .int 0, .int 0, .ref 97, .ref 98, .int 0, .ref 99, .ref 100, .ref 101, .ref 102, .ref 103, .int 0, .ref 104, .ref 105, .ref 106, .ref 107, .ref 108, .ref 109, .ref 110, .int 0, .int 0, .long 0]),
  .inl (1, 41, .inr (.inl (vp_updL (vp_updL (vp_updL (vp_updL (vp_updL (vp_updL (vp_updL (vp_updL (vp_updL (vp_updL (vp_updL (vp_updL (vp_updL (vp_updL (vp_updL (vp_updL (vp_updL (vp_updL (vp_updL (vp_updL (vp_updL (vp_updL (vp_updL (vp_updL (vp_updL (vp_updL (vp_updL (vp_updL (vp_updL (vp_updL (vp_updL (vp_updL (vp_updL (vp_updL (vp_updL (vp_updL (vp_updL (vp_updL (vp_updL (vp_updL (vp_updL (fun _ => 0) 0 176) 1 249) 2 107681) 3 12387497) 4 4797) 5 257) 6 13903) 7 261347000) 8 9592700) 9 15091) 10 419) 11 13550) 12 188623) 13 315749) 14 151150) 15 365869) 16 1887) 17 381245) 18 334901377) 19 223456) 20 14431) 21 9528) 22 9734) 23 376205) 24 385418) 25 4075223) 26 40187) 27 126893) 28 409469) 29 4085899) 30 208022) 31 394691) 32 92275) 33 2774) 34 321581) 35 125041) 36 11695) 37 8399691) 38 375062) 39 99233) 40 129361))),
  .inl (0, 30, .inl (upd (upd (upd (upd (upd (upd (upd (upd (upd (fun _ => 0) 0 1) 1 1) 2 1) 3 2) 4 1) 5 1) 6 1) 7 1) 8 1)),
  .inl (2, 1620, .inl (fun _ => 0)),
  .inl (1, 24, .inr (.inl (fun _ => 0))),
  .inl (0, 24, .inl (fun _ => 0)),
  .inl (0, 24, .inl (fun _ => 0)),
  .inl (0, 24, .inl (fun _ => 0)),
  .inl (0, 24, .inl (fun _ => 0)),
  .inl (1, 14, .inr (.inl (fun _ => 0))),
  .inl (0, 8000, .inl (fun _ => 0)),
  .inl (0, 8000, .inl (fun _ => 0)),
  .inl (0, 8000, .inl (fun _ => 0)),
  .inl (0, 8000, .inl (fun _ => 0)),
  .inl (0, 8000, .inl (fun _ => 0)),
  .inl (0, 800, .inl (fun _ => 0)),
  .inl (0, 800, .inl (fun _ => 0)),
  .inl (0, 800, .inl (fun _ => 0)),
  .inl (1, 800, .inr (.inl (fun _ => 0))),
  .inl (0, 12, .inl (fun _ => 0)),
  .inl (0, 12, .inl (fun _ => 0)),
  .inl (0, 12, .inl (fun _ => 0)),
  .inl (0, 80, .inl (fun _ => 0)),
  .inl (0, 80, .inl (fun _ => 0)),
  .inl (0, 80, .inl (fun _ => 0)),
  .inl (0, 80, .inl (fun _ => 0)),
  .inl (1, 80, .inr (.inl (fun _ => 0))),
  .inl (0, 80, .inl (fun _ => 0)),
  .inl (0, 166300, .inl (fun _ => 0)),
  .inl (0, 9000, .inl (fun _ => 0)),
  .inl (0, 9000, .inl (fun _ => 0)),
  .inl (0, 8, .inl (fun _ => 0)),
  .inl (0, 8, .inl (fun _ => 0)),
  .inl (0, 8, .inl (fun _ => 0)),
  .inl (0, 700, .inl (fun _ => 0)),
  .inl (0, 700, .inl (fun _ => 0)),
  .inl (0, 8, .inl (fun _ => 0)),
  .inl (0, 8, .inl (fun _ => 0)),
  .inl (0, 10, .inl (fun _ => 0)),
  .inl (0, 10, .inl (fun _ => 0)),
  .inl (0, 10, .inl (fun _ => 0)),
  .inl (0, 140, .inl (fun _ => 0)),
  .inl (0, 140, .inl (fun _ => 0)),
  .inl (0, 400, .inl (fun _ => 0)),
  .inl (0, 400, .inl (fun _ => 0)),
  .inl (0, 400, .inl (fun _ => 0)),
  .inl (0, 400, .inl (fun _ => 0)),
  .inl (0, 400, .inl (fun _ => 0)),
  .inl (0, 400, .inl (fun _ => 0)),
  .inl (2, 600, .inl (fun _ => 0))]
set_option maxRecDepth 100000 in
theorem zv_2_15 : (fun X : Nat → Option zz_C => zz_go zt_tf zt_fd X 40 zm_56 748 [(1, .int 7), (0, .ref 61)] [] zv_m14) = (fun _ => some ((729, [(1, .int 9), (0, .ref 61)], [.int 9, .int 9, .ref 63]), zv_m15)) := by rfl
def zv_m16 : zz_H := [.inr (12, [.ref 1, .int 0, .ref 2, .ref 12, .ref 21, .int (-1), .int (-1), .ref 30, .ref 41, .int 0, .ref 42, .ref 45, .ref 48, .ref 49]),
  .inl (2, 320, .inl (fun _ => 0)),
  .inr (5, [.ref 3, .null, .int 0, .ref 7, .int 0, .ref 8, .ref 9, .ref 10, .ref 11, .int 0, .int 0, .int 0]),
  .inr (10, [.ref 4, .ref 5, .ref 6, .int 0, .int 0, .int 0, .int 0, .long 0]),
  .inl (0, 32, .inl (fun _ => 0)),
  .inl (0, 32, .inl (fun _ => 0)),
  .inl (1, 32, .inr (.inl (fun _ => 0))),
  .inl (1, 14, .inr (.inl (fun _ => 0))),
  .inl (0, 8, .inl (fun _ => 0)),
  .inl (1, 8, .inr (.inl (fun _ => 0))),
  .inl (0, 8, .inl (fun _ => 0)),
  .inl (0, 8, .inl (fun _ => 0)),
  .inr (6, [.ref 13, .ref 14, .ref 15, .int 0, .int 0, .ref 16, .ref 17, .ref 18, .ref 19, .ref 20]),
  .inl (0, 32, .inl (fun _ => 0)),
  .inl (0, 32, .inl (fun _ => 0)),
  .inl (0, 32, .inl (fun _ => 0)),
  .inl (1, 12, .inr (.inl (fun _ => 0))),
  .inl (0, 12, .inl (fun _ => 0)),
  .inl (0, 12, .inl (fun _ => 0)),
  .inl (0, 12, .inl (fun _ => 0)),
  .inl (0, 12, .inl (fun _ => 0)),
  .inr (6, [.ref 22, .ref 23, .ref 24, .int 0, .int 0, .ref 25, .ref 26, .ref 27, .ref 28, .ref 29]),
  .inl (0, 32, .inl (fun _ => 0)),
  .inl (0, 32, .inl (fun _ => 0)),
  .inl (0, 32, .inl (fun _ => 0)),
  .inl (1, 12, .inr (.inl (fun _ => 0))),
  .inl (0, 12, .inl (fun _ => 0)),
  .inl (0, 12, .inl (fun _ => 0)),
  .inl (0, 12, .inl (fun _ => 0)),
  .inl (0, 12, .inl (fun _ => 0)),
  .inr (7, [.ref 31, .ref 40, .int 0]),
  .inl (5, 8, .inr (.inr (.inr (.inr (fun i => if i < 8 then some (32 + i) else none))))),
  .inl (0, 4, .inl (fun _ => 0)),
  .inl (0, 4, .inl (fun _ => 0)),
  .inl (0, 4, .inl (fun _ => 0)),
  .inl (0, 4, .inl (fun _ => 0)),
  .inl (0, 4, .inl (fun _ => 0)),
  .inl (0, 4, .inl (fun _ => 0)),
  .inl (0, 4, .inl (fun _ => 0)),
  .inl (0, 4, .inl (fun _ => 0)),
  .inl (0, 8, .inl (fun _ => 0)),
  .inl (4, 6, .inr (.inr (.inr (.inr (fun _ => none))))),
  .inr (2, [.ref 43, .int 0, .ref 44, .int 0]),
  .inl (1, 128, .inr (.inl (fun _ => 0))),
  .inl (1, 32, .inr (.inl (fun _ => 0))),
  .inr (4, [.ref 46, .int 0, .ref 47]),
  .inl (2, 64, .inl (fun _ => 0)),
  .inl (2, 10, .inl (fun _ => 0)),
  .inr (9, [.int 0, .int 0, .int 0, .int 0, .int 0, .int 0, .int 0, .int (-1), .int 0]),
  .inr (3, [.ref 42, .ref 45, .ref 48, .ref 58, .ref 59, .ref 50, .ref 51, .ref 52, .int 0, .ref 53, .ref 54, .int 0, .ref 55, .ref 56, .ref 57, .int 0, .null, .int 0, .int 0]),
  .inl (1, 8, .inr (.inl (fun _ => 0))),
  .inl (3, 8, .inl (fun _ => 0)),
  .inl (1, 32, .inr (.inl (fun _ => 0))),
  .inl (0, 10, .inl (fun _ => 0)),
  .inl (0, 10, .inl (fun _ => 0)),
  .inl (0, 8, .inl (fun _ => 0)),
  .inl (0, 8, .inl (fun _ => 0)),
  .inl (0, 8, .inl (fun _ => 0)),
  .inr (8, [.ref 42, .int 0]),
  .inr (1, [.ref 42, .ref 60]),
  .inl (0, 64, .inl (fun _ => 0)),
  .inr (13, [.ref 62, .ref 63, .ref 64, .int 0, .int 0, .int 0, .int 0, .long 0, .int 0, .int 0, .int 0, .int 0, .int 0, .int 0, .int 0, .int 0, .ref 65, .ref 66, .ref 67, .ref 68, .ref 69, .ref 70, .int 0, .ref 71, .ref 72, .ref 73, .ref 74, .ref 75, .int 0, .int 0, .ref 76, .ref 77, .ref 78, .ref 79, .ref 80, .ref 81, .ref 82, .int 0, .ref 83, .ref 84, .ref 85, .ref 86, .ref 87, .ref 88, .int 0, .int (-1), .int (-1), .ref 89, .int 0, .ref 90, .ref 91, .int 0, .ref 92, .ref 93, .ref 94, .int 0, .int 0, .int 0, .ref 95, .ref 96, .int 0, .int 0, .int 0, .int 0, .int 0, .int 0, .int 0, .int (-1), .int 0, .int 0, .int 0, .ref 97, .ref 98, .int 0, .ref 99, .ref 100, .ref 101, .ref 102, .ref 103, .int 0, .ref 104, .ref 105, .ref 106, .ref 107, .ref 108, .ref 109, .ref 110, .int 0, .int 0, .long 0]),
  .inl (1, 41, .inr (.inl (vp_updL (vp_updL (vp_updL (vp_updL (vp_updL (vp_updL (vp_updL (vp_updL (vp_updL (vp_updL (vp_updL (vp_updL (vp_updL (vp_updL (vp_updL (vp_updL (vp_updL (vp_updL (vp_updL (vp_updL (vp_updL (vp_updL (vp_updL (vp_updL (vp_updL (vp_updL (vp_updL (vp_updL (vp_updL (vp_updL (vp_updL (vp_updL (vp_updL (vp_updL (vp_updL (vp_updL (vp_updL (vp_updL (vp_updL (vp_updL (vp_updL (fun _ => 0) 0 176) 1 249) 2 107681) 3 12387497) 4 4797) 5 257) 6 13903) 7 261347000) 8 9592700) 9 15091) 10 419) 11 13550) 12 188623) 13 315749) 14 151150) 15 365869) 16 1887) 17 381245) 18 334901377) 19 223456) 20 14431) 21 9528) 22 9734) 23 376205) 24 385418) 25 4075223) 26 40187) 27 126893) 28 409469) 29 4085899) 30 208022) 31 394691) 32 92275) 33 2774) 34 321581) 35 125041) 36 11695) 37 8399691) 38 375062) 39 99233) 40 129361))),
  .inl (0, 30, .inl (upd (upd (upd (upd (upd (upd (upd (upd (upd (upd (upd (upd (fun _ => 0) 0 1) 1 1) 2 1) 3 2) 4 1) 5 1) 6 1) 7 1) 8 1) 9 1) 10 1) 11 1)),
  .inl (2, 1620, .inl (fun _ => 0)),
  .inl (1, 24, .inr (.inl (fun _ => 0))),
  .inl (0, 24, .inl (fun _ => 0)),
  .inl (0, 24, .inl (fun _ => 0)),
  .inl (0, 24, .inl (fun _ => 0)),
  .inl (0, 24, .inl (fun _ => 0)),
  .inl (1, 14, .inr (.inl (fun _ => 0))),
  .inl (0, 8000, .inl (fun _ => 0)),
  .inl (0, 8000, .inl (fun _ => 0)),
  .inl (0, 8000, .inl (fun _ => 0)),
  .inl (0, 8000, .inl (fun _ => 0)),
  .inl (0, 8000, .inl (fun _ => 0)),
  .inl (0, 800, .inl (fun _ => 0)),
  .inl (0, 800, .inl (fun _ => 0)),
  .inl (0, 800, .inl (fun _ => 0)),
  .inl (1, 800, .inr (.inl (fun _ => 0))),
  .inl (0, 12, .inl (fun _ => 0)),
  .inl (0, 12, .inl (fun _ => 0)),
  .inl (0, 12, .inl (fun _ => 0)),
  .inl (0, 80, .inl (fun _ => 0)),
  .inl (0, 80, .inl (fun _ => 0)),
  .inl (0, 80, .inl (fun _ => 0)),
  .inl (0, 80, .inl (fun _ => 0)),
  .inl (1, 80, .inr (.inl (fun _ => 0))),
  .inl (0, 80, .inl (fun _ => 0)),
  .inl (0, 166300, .inl (fun _ => 0)),
  .inl (0, 9000, .inl (fun _ => 0)),
  .inl (0, 9000, .inl (fun _ => 0)),
  .inl (0, 8, .inl (fun _ => 0)),
  .inl (0, 8, .inl (fun _ => 0)),
  .inl (0, 8, .inl (fun _ => 0)),
  .inl (0, 700, .inl (fun _ => 0)),
  .inl (0, 700, .inl (fun _ => 0)),
  .inl (0, 8, .inl (fun _ => 0)),
  .inl (0, 8, .inl (fun _ => 0)),
  .inl (0, 10, .inl (fun _ => 0)),
  .inl (0, 10, .inl (fun _ => 0)),
  .inl (0, 10, .inl (fun _ => 0)),
  .inl (0, 140, .inl (fun _ => 0)),
  .inl (0, 140, .inl (fun _ => 0)),
  .inl (0, 400, .inl (fun _ => 0)),
  .inl (0, 400, .inl (fun _ => 0)),
  .inl (0, 400, .inl (fun _ => 0)),
  .inl (0, 400, .inl (fun _ => 0)),
  .inl (0, 400, .inl (fun _ => 0)),
  .inl (0, 400, .inl (fun _ => 0)),
  .inl (2, 600, .inl (fun _ => 0))]
set_option maxRecDepth 100000 in
theorem zv_2_16 : (fun X : Nat → Option zz_C => zz_go zt_tf zt_fd X 40 zm_56 729 [(1, .int 9), (0, .ref 61)] [.int 9, .int 9, .ref 63] zv_m15) = (fun _ => some ((748, [(1, .int 12), (0, .ref 61)], []), zv_m16)) := by rfl
def zv_m17 : zz_H := [.inr (12, [.ref 1, .int 0, .ref 2, .ref 12, .ref 21, .int (-1), .int (-1), .ref 30, .ref 41, .int 0, .ref 42, .ref 45, .ref 48, .ref 49]),
  .inl (2, 320, .inl (fun _ => 0)),
  .inr (5, [.ref 3, .null, .int 0, .ref 7, .int 0, .ref 8, .ref 9, .ref 10, .ref 11, .int 0, .int 0, .int 0]),
  .inr (10, [.ref 4, .ref 5, .ref 6, .int 0, .int 0, .int 0, .int 0, .long 0]),
  .inl (0, 32, .inl (fun _ => 0)),
  .inl (0, 32, .inl (fun _ => 0)),
  .inl (1, 32, .inr (.inl (fun _ => 0))),
  .inl (1, 14, .inr (.inl (fun _ => 0))),
  .inl (0, 8, .inl (fun _ => 0)),
  .inl (1, 8, .inr (.inl (fun _ => 0))),
  .inl (0, 8, .inl (fun _ => 0)),
  .inl (0, 8, .inl (fun _ => 0)),
  .inr (6, [.ref 13, .ref 14, .ref 15, .int 0, .int 0, .ref 16, .ref 17, .ref 18, .ref 19, .ref 20]),
  .inl (0, 32, .inl (fun _ => 0)),
  .inl (0, 32, .inl (fun _ => 0)),
  .inl (0, 32, .inl (fun _ => 0)),
  .inl (1, 12, .inr (.inl (fun _ => 0))),
  .inl (0, 12, .inl (fun _ => 0)),
  .inl (0, 12, .inl (fun _ => 0)),
  .inl (0, 12, .inl (fun _ => 0)),
  .inl (0, 12, .inl (fun _ => 0)),
  .inr (6, [.ref 22, .ref 23, .ref 24, .int 0, .int 0, .ref 25, .ref 26, .ref 27, .ref 28, .ref 29]),
  .inl (0, 32, .inl (fun _ => 0)),
  .inl (0, 32, .inl (fun _ => 0)),
  .inl (0, 32, .inl (fun _ => 0)),
  .inl (1, 12, .inr (.inl (fun _ => 0))),
  .inl (0, 12, .inl (fun _ => 0)),
  .inl (0, 12, .inl (fun _ => 0)),
  .inl (0, 12, .inl (fun _ => 0)),
  .inl (0, 12, .inl (fun _ => 0)),
  .inr (7, [.ref 31, .ref 40, .int 0]),
  .inl (5, 8, .inr (.inr (.inr (.inr (fun i => if i < 8 then some (32 + i) else none))))),
  .inl (0, 4, .inl (fun _ => 0)),
  .inl (0, 4, .inl (fun _ => 0)),
  .inl (0, 4, .inl (fun _ => 0)),
  .inl (0, 4, .inl (fun _ => 0)),
  .inl (0, 4, .inl (fun _ => 0)),
  .inl (0, 4, .inl (fun _ => 0)),
  .inl (0, 4, .inl (fun _ => 0)),
  .inl (0, 4, .inl (fun _ => 0)),
  .inl (0, 8, .inl (fun _ => 0)),
  .inl (4, 6, .inr (.inr (.inr (.inr (fun _ => none))))),
  .inr (2, [.ref 43, .int 0, .ref 44, .int 0]),
  .inl (1, 128, .inr (.inl (fun _ => 0))),
  .inl (1, 32, .inr (.inl (fun _ => 0))),
  .inr (4, [.ref 46, .int 0, .ref 47]),
  .inl (2, 64, .inl (fun _ => 0)),
  .inl (2, 10, .inl (fun _ => 0)),
  .inr (9, [.int 0, .int 0, .int 0, .int 0, .int 0, .int 0, .int 0, .int (-1), .int 0]),
  .inr (3, [.ref 42, .ref 45, .ref 48, .ref 58, .ref 59, .ref 50, .ref 51, .ref 52, .int 0, .ref 53, .ref 54, .int 0, .ref 55, .ref 56, .ref 57, .int 0, .null, .int 0, .int 0]),
  .inl (1, 8, .inr (.inl (fun _ => 0))),
  .inl (3, 8, .inl (fun _ => 0)),
  .inl (1, 32, .inr (.inl (fun _ => 0))),
  .inl (0, 10, .inl (fun _ => 0)),
  .inl (0, 10, .inl (fun _ => 0)),
  .inl (0, 8, .inl (fun _ => 0)),
  .inl (0, 8, .inl (fun _ => 0)),
  .inl (0, 8, .inl (fun _ => 0)),
  .inr (8, [.ref 42, .int 0]),
  .inr (1, [.ref 42, .ref 60]),
  .inl (0, 64, .inl (fun _ => 0)),
  .inr (13, [.ref 62, .ref 63, .ref 64, .int 0, .int 0, .int 0, .int 0, .long 0, .int 0, .int 0, .int 0, .int 0, .int 0, .int 0, .int 0, .int 0, .ref 65, .ref 66, .ref 67, .ref 68, .ref 69, .ref 70, .int 0, .ref 71, .ref 72, .ref 73, .ref 74, .ref 75, .int 0, .int 0, .ref 76, .ref 77, .ref 78, .ref 79, .ref 80, .ref 81, .ref 82, .int 0, .ref 83, .ref 84, .ref 85, .ref 86, .ref 87, .ref 88, .int 0, .int (-1), .int (-1), .ref 89, .int 0, .ref 90, .ref 91, .int 0, .ref 92, .ref 93, .ref 94, .int 0, .int 0, .int 0, .ref 95, .ref 96, .int 0, .int 0, .int 0, .int 0, .int 0, .int 0, .int 0, .int (-1), .int 0, .int 0, .int 0, .ref 97, .ref 98, .int 0, .ref 99, .ref 100, .ref 101, .ref 102, .ref 103, .int 0, .ref 104, .ref 105, .ref 106, .ref 107, .ref 108, .ref 109, .ref 110, .int 0, .int 0, .long 0]),
  .inl (1, 41, .inr (.inl (vp_updL (vp_updL (vp_updL (vp_updL (vp_updL (vp_updL (vp_updL (vp_updL (vp_updL (vp_updL (vp_updL (vp_updL (vp_updL (vp_updL (vp_updL (vp_updL (vp_updL (vp_updL (vp_updL (vp_updL (vp_updL (vp_updL (vp_updL (vp_updL (vp_updL (vp_updL (vp_updL (vp_updL (vp_updL (vp_updL (vp_updL (vp_updL (vp_updL (vp_updL (vp_updL (vp_updL (vp_updL (vp_updL (vp_updL (vp_updL (vp_updL (fun _ => 0) 0 176) 1 249) 2 107681) 3 12387497) 4 4797) 5 257) 6 13903) 7 261347000) 8 9592700) 9 15091) 10 419) 11 13550) 12 188623) 13 315749) 14 151150) 15 365869) 16 1887) 17 381245) 18 334901377) 19 223456) 20 14431) 21 9528) 22 9734) 23 376205) 24 385418) 25 4075223) 26 40187) 27 126893) 28 409469) 29 4085899) 30 208022) 31 394691) 32 92275) 33 2774) 34 321581) 35 125041) 36 11695) 37 8399691) 38 375062) 39 99233) 40 129361))),
  .inl (0, 30, .inl (upd (upd (upd (upd (upd (upd (upd (upd (upd (upd (upd (upd (upd (upd (fun _ => 0) 0 1) 1 1) 2 1) 3 2) 4 1) 5 1) 6 1) 7 1) 8 1) 9 1) 10 1) 11 1) 12 1) 13 1)),
  .inl (2, 1620, .inl (fun _ => 0)),
  .inl (1, 24, .inr (.inl (fun _ => 0))),
  .inl (0, 24, .inl (fun _ => 0)),
  .inl (0, 24, .inl (fun _ => 0)),
  .inl (0, 24, .inl (fun _ => 0)),
  .inl (0, 24, .inl (fun _ => 0)),
  .inl (1, 14, .inr (.inl (fun _ => 0))),
  .inl (0, 8000, .inl (fun _ => 0)),
  .inl (0, 8000, .inl (fun _ => 0)),
  .inl (0, 8000, .inl (fun _ => 0)),
  .inl (0, 8000, .inl (fun _ => 0)),
  .inl (0, 8000, .inl (fun _ => 0)),
  .inl (0, 800, .inl (fun _ => 0)),
  .inl (0, 800, .inl (fun _ => 0)),
  .inl (0, 800, .inl (fun _ => 0)),
  .inl (1, 800, .inr (.inl (fun _ => 0))),
  .inl (0, 12, .inl (fun _ => 0)),
  .inl (0, 12, .inl (fun _ => 0)),
  .inl (0, 12, .inl (fun _ => 0)),
  .inl (0, 80, .inl (fun _ => 0)),
  .inl (0, 80, .inl (fun _ => 0)),
  .inl (0, 80, .inl (fun _ => 0)),
  .inl (0, 80, .inl (fun _ => 0)),
  .inl (1, 80, .inr (.inl (fun _ => 0))),
  .inl (0, 80, .inl (fun _ => 0)),
  .inl (0, 166300, .inl (fun _ => 0)),
  .inl (0, 9000, .inl (fun _ => 0)),
  .inl (0, 9000, .inl (fun _ => 0)),
  .inl (0, 8, .inl (fun _ => 0)),
  .inl (0, 8, .inl (fun _ => 0)),
  .inl (0, 8, .inl (fun _ => 0)),
  .inl (0, 700, .inl (fun _ => 0)),
  .inl (0, 700, .inl (fun _ => 0)),
  .inl (0, 8, .inl (fun _ => 0)),
  .inl (0, 8, .inl (fun _ => 0)),
  .inl (0, 10, .inl (fun _ => 0)),
  .inl (0, 10, .inl (fun _ => 0)),
  .inl (0, 10, .inl (fun _ => 0)),
  .inl (0, 140, .inl (fun _ => 0)),
  .inl (0, 140, .inl (fun _ => 0)),
  .inl (0, 400, .inl (fun _ => 0)),
  .inl (0, 400, .inl (fun _ => 0)),
  .inl (0, 400, .inl (fun _ => 0)),
  .inl (0, 400, .inl (fun _ => 0)),
  .inl (0, 400, .inl (fun _ => 0)),
  .inl (0, 400, .inl (fun _ => 0)),
  .inl (2, 600, .inl (fun _ => 0))]
set_option maxRecDepth 100000 in
theorem zv_2_17 : (fun X : Nat → Option zz_C => zz_go zt_tf zt_fd X 40 zm_56 748 [(1, .int 12), (0, .ref 61)] [] zv_m16) = (fun _ => some ((729, [(1, .int 14), (0, .ref 61)], [.int 14, .int 14, .ref 63]), zv_m17)) := by rfl
def zv_m18 : zz_H := [.inr (12, [.ref 1, .int 0, .ref 2, .ref 12, .ref 21, .int (-1), .int (-1), .ref 30, .ref 41, .int 0, .ref 42, .ref 45, .ref 48, .ref 49]),
  .inl (2, 320, .inl (fun _ => 0)),
  .inr (5, [.ref 3, .null, .int 0, .ref 7, .int 0, .ref 8, .ref 9, .ref 10, .ref 11, .int 0, .int 0, .int 0]),
  .inr (10, [.ref 4, .ref 5, .ref 6, .int 0, .int 0, .int 0, .int 0, .long 0]),
  .inl (0, 32, .inl (fun _ => 0)),
  .inl (0, 32, .inl (fun _ => 0)),
  .inl (1, 32, .inr (.inl (fun _ => 0))),
  .inl (1, 14, .inr (.inl (fun _ => 0))),
  .inl (0, 8, .inl (fun _ => 0)),
  .inl (1, 8, .inr (.inl (fun _ => 0))),
  .inl (0, 8, .inl (fun _ => 0)),
  .inl (0, 8, .inl (fun _ => 0)),
  .inr (6, [.ref 13, .ref 14, .ref 15, .int 0, .int 0, .ref 16, .ref 17, .ref 18, .ref 19, .ref 20]),
  .inl (0, 32, .inl (fun _ => 0)),
  .inl (0, 32, .inl (fun _ => 0)),
  .inl (0, 32, .inl (fun _ => 0)),
  .inl (1, 12, .inr (.inl (fun _ => 0))),
  .inl (0, 12, .inl (fun _ => 0)),
  .inl (0, 12, .inl (fun _ => 0)),
  .inl (0, 12, .inl (fun _ => 0)),
  .inl (0, 12, .inl (fun _ => 0)),
  .inr (6, [.ref 22, .ref 23, .ref 24, .int 0, .int 0, .ref 25, .ref 26, .ref 27, .ref 28, .ref 29]),
  .inl (0, 32, .inl (fun _ => 0)),
  .inl (0, 32, .inl (fun _ => 0)),
  .inl (0, 32, .inl (fun _ => 0)),
  .inl (1, 12, .inr (.inl (fun _ => 0))),
  .inl (0, 12, .inl (fun _ => 0)),
  .inl (0, 12, .inl (fun _ => 0)),
  .inl (0, 12, .inl (fun _ => 0)),
  .inl (0, 12, .inl (fun _ => 0)),
  .inr (7, [.ref 31, .ref 40, .int 0]),
  .inl (5, 8, .inr (.inr (.inr (.inr (fun i => if i < 8 then some (32 + i) else none))))),
  .inl (0, 4, .inl (fun _ => 0)),
  .inl (0, 4, .inl (fun _ => 0)),
  .inl (0, 4, .inl (fun _ => 0)),
  .inl (0, 4, .inl (fun _ => 0)),
  .inl (0, 4, .inl (fun _ => 0)),
  .inl (0, 4, .inl (fun _ => 0)),
  .inl (0, 4, .inl (fun _ => 0)),
  .inl (0, 4, .inl (fun _ => 0)),
  .inl (0, 8, .inl (fun _ => 0)),
  .inl (4, 6, .inr (.inr (.inr (.inr (fun _ => none))))),
  .inr (2, [.ref 43, .int 0, .ref 44, .int 0]),
  .inl (1, 128, .inr (.inl (fun _ => 0))),
  .inl (1, 32, .inr (.inl (fun _ => 0))),
  .inr (4, [.ref 46, .int 0, .ref 47]),
  .inl (2, 64, .inl (fun _ => 0)),
  .inl (2, 10, .inl (fun _ => 0)),
  .inr (9, [.int 0, .int 0, .int 0, .int 0, .int 0, .int 0, .int 0, .int (-1), .int 0]),
  .inr (3, [.ref 42, .ref 45, .ref 48, .ref 58, .ref 59, .ref 50, .ref 51, .ref 52, .int 0, .ref 53, .ref 54, .int 0, .ref 55, .ref 56, .ref 57, .int 0, .null, .int 0, .int 0]),
  .inl (1, 8, .inr (.inl (fun _ => 0))),
  .inl (3, 8, .inl (fun _ => 0)),
  .inl (1, 32, .inr (.inl (fun _ => 0))),
  .inl (0, 10, .inl (fun _ => 0)),
  .inl (0, 10, .inl (fun _ => 0)),
  .inl (0, 8, .inl (fun _ => 0)),
  .inl (0, 8, .inl (fun _ => 0)),
  .inl (0, 8, .inl (fun _ => 0)),
  .inr (8, [.ref 42, .int 0]),
  .inr (1, [.ref 42, .ref 60]),
  .inl (0, 64, .inl (fun _ => 0)),
  .inr (13, [.ref 62, .ref 63, .ref 64, .int 0, .int 0, .int 0, .int 0, .long 0, .int 0, .int 0, .int 0, .int 0, .int 0, .int 0, .int 0, .int 0, .ref 65, .ref 66, .ref 67, .ref 68, .ref 69, .ref 70, .int 0, .ref 71, .ref 72, .ref 73, .ref 74, .ref 75, .int 0, .int 0, .ref 76, .ref 77, .ref 78, .ref 79, .ref 80, .ref 81, .ref 82, .int 0, .ref 83, .ref 84, .ref 85, .ref 86, .ref 87, .ref 88, .int 0, .int (-1), .int (-1), .ref 89, .int 0, .ref 90, .ref 91, .int 0, .ref 92, .ref 93, .ref 94, .int 0, .int 0, .int 0, .ref 95, .ref 96, .int 0, .int 0, .int 0, .int 0, .int 0, .int 0, .int 0, .int (-1), .int 0, .int 0, .int 0, .ref 97, .ref 98, .int 0, .ref 99, .ref 100, .ref 101, .ref 102, .ref 103, .int 0, .ref 104, .ref 105, .ref 106, .ref 107, .ref 108, .ref 109, .ref 110, .int 0, .int 0, .long 0]),
  .inl (1, 41, .inr (.inl (vp_updL (vp_updL (vp_updL (vp_updL (vp_updL (vp_updL (vp_updL (vp_updL (vp_updL (vp_updL (vp_updL (vp_updL (vp_updL (vp_updL (vp_updL (vp_updL (vp_updL (vp_updL (vp_updL (vp_updL (vp_updL (vp_updL (vp_updL (vp_updL (vp_updL (vp_updL (vp_updL (vp_updL (vp_updL (vp_updL (vp_updL (vp_updL (vp_updL (vp_updL (vp_updL (vp_updL (vp_updL (vp_updL (vp_updL (vp_updL (vp_updL (fun _ => 0) 0 176) 1 249) 2 107681) 3 12387497) 4 4797) 5 257) 6 13903) 7 261347000) 8 9592700) 9 15091) 10 419) 11 13550) 12 188623) 13 315749) 14 151150) 15 365869) 16 1887) 17 381245) 18 334901377) 19 223456) 20 14431) 21 9528) 22 9734) 23 376205) 24 385418) 25 4075223) 26 40187) 27 126893) 28 409469) 29 4085899) 30 208022) 31 394691) 32 92275) 33 2774) 34 321581) 35 125041) 36 11695) 37 8399691) 38 375062) 39 99233) 40 129361))),
  .inl (0, 30, .inl (upd (upd (upd (upd (upd (upd (upd (upd (upd (upd (upd (upd (upd (upd (upd (upd (upd (fun _ => 0) 0 1) 1 1) 2 1) 3 2) 4 1) 5 1) 6 1) 7 1) 8 1) 9 1) 10 1) 11 1) 12 1) 13 1) 14 1) 15 1) 16 1)),
  .inl (2, 1620, .inl (fun _ => 0)),
  .inl (1, 24, .inr (.inl (fun _ => 0))),
  .inl (0, 24, .inl (fun _ => 0)),
  .inl (0, 24, .inl (fun _ => 0)),
  .inl (0, 24, .inl (fun _ => 0)),
  .inl (0, 24, .inl (fun _ => 0)),
  .inl (1, 14, .inr (.inl (fun _ => 0))),
  .inl (0, 8000, .inl (fun _ => 0)),
  .inl (0, 8000, .inl (fun _ => 0)),
  .inl (0, 8000, .inl (fun _ => 0)),
  .inl (0, 8000, .inl (fun _ => 0)),
  .inl (0, 8000, .inl (fun _ => 0)),
  .inl (0, 800, .inl (fun _ => 0)),
  .inl (0, 800, .inl (fun _ => 0)),
  .inl (0, 800, .inl (fun _ => 0)),
  .inl (1, 800, .inr (.inl (fun _ => 0))),
  .inl (0, 12, .inl (fun _ => 0)),
  .inl (0, 12, .inl (fun _ => 0)),
  .inl (0, 12, .inl (fun _ => 0)),
  .inl (0, 80, .inl (fun _ => 0)),
  .inl (0, 80, .inl (fun _ => 0)),
  .inl (0, 80, .inl (fun _ => 0)),
  .inl (0, 80, .inl (fun _ => 0)),
  .inl (1, 80, .inr (.inl (fun _ => 0))),
  .inl (0, 80, .inl (fun _ => 0)),
  .inl (0, 166300, .inl (fun _ => 0)),
  .inl (0, 9000, .inl (fun _ => 0)),
  .inl (0, 9000, .inl (fun _ => 0)),
  .inl (0, 8, .inl (fun _ => 0)),
  .inl (0, 8, .inl (fun _ => 0)),
  .inl (0, 8, .inl (fun _ => 0)),
  .inl (0, 700, .inl (fun _ => 0)),
  .inl (0, 700, .inl (fun _ => 0)),
  .inl (0, 8, .inl (fun _ => 0)),
  .inl (0, 8, .inl (fun _ => 0)),
  .inl (0, 10, .inl (fun _ => 0)),
  .inl (0, 10, .inl (fun _ => 0)),
  .inl (0, 10, .inl (fun _ => 0)),
  .inl (0, 140, .inl (fun _ => 0)),
  .inl (0, 140, .inl (fun _ => 0)),
  .inl (0, 400, .inl (fun _ => 0)),
  .inl (0, 400, .inl (fun _ => 0)),
  .inl (0, 400, .inl (fun _ => 0)),
  .inl (0, 400, .inl (fun _ => 0)),
  .inl (0, 400, .inl (fun _ => 0)),
  .inl (0, 400, .inl (fun _ => 0)),
  .inl (2, 600, .inl (fun _ => 0))]
set_option maxRecDepth 100000 in
theorem zv_2_18 : (fun X : Nat → Option zz_C => zz_go zt_tf zt_fd X 40 zm_56 729 [(1, .int 14), (0, .ref 61)] [.int 14, .int 14, .ref 63] zv_m17) = (fun _ => some ((748, [(1, .int 17), (0, .ref 61)], []), zv_m18)) := by rfl
def zv_m19 : zz_H := [.inr (12, [.ref 1, .int 0, .ref 2, .ref 12, .ref 21, .int (-1), .int (-1), .ref 30, .ref 41, .int 0, .ref 42, .ref 45, .ref 48, .ref 49]),
  .inl (2, 320, .inl (fun _ => 0)),
  .inr (5, [.ref 3, .null, .int 0, .ref 7, .int 0, .ref 8, .ref 9, .ref 10, .ref 11, .int 0, .int 0, .int 0]),
  .inr (10, [.ref 4, .ref 5, .ref 6, .int 0, .int 0, .int 0, .int 0, .long 0]),
  .inl (0, 32, .inl (fun _ => 0)),
  .inl (0, 32, .inl (fun _ => 0)),
  .inl (1, 32, .inr (.inl (fun _ => 0))),
  .inl (1, 14, .inr (.inl (fun _ => 0))),
  .inl (0, 8, .inl (fun _ => 0)),
  .inl (1, 8, .inr (.inl (fun _ => 0))),
  .inl (0, 8, .inl (fun _ => 0)),
  .inl (0, 8, .inl (fun _ => 0)),
  .inr (6, [.ref 13, .ref 14, .ref 15, .int 0, .int 0, .ref 16, .ref 17, .ref 18, .ref 19, .ref 20]),
  .inl (0, 32, .inl (fun _ => 0)),
  .inl (0, 32, .inl (fun _ => 0)),
  .inl (0, 32, .inl (fun _ => 0)),
  .inl (1, 12, .inr (.inl (fun _ => 0))),
  .inl (0, 12, .inl (fun _ => 0)),
  .inl (0, 12, .inl (fun _ => 0)),
  .inl (0, 12, .inl (fun _ => 0)),
  .inl (0, 12, .inl (fun _ => 0)),
  .inr (6, [.ref 22, .ref 23, .ref 24, .int 0, .int 0, .ref 25, .ref 26, .ref 27, .ref 28, .ref 29]),
  .inl (0, 32, .inl (fun _ => 0)),
  .inl (0, 32, .inl (fun _ => 0)),
  .inl (0, 32, .inl (fun _ => 0)),
  .inl (1, 12, .inr (.inl (fun _ => 0))),
  .inl (0, 12, .inl (fun _ => 0)),
  .inl (0, 12, .inl (fun _ => 0)),
  .inl (0, 12, .inl (fun _ => 0)),
  .inl (0, 12, .inl (fun _ => 0)),
  .inr (7, [.ref 31, .ref 40, .int 0]),
  .inl (5, 8, .inr (.inr (.inr (.inr (fun i => if i < 8 then some (32 + i) else none))))),
  .inl (0, 4, .inl (fun _ => 0)),
  .inl (0, 4, .inl (fun _ => 0)),
  .inl (0, 4, .inl (fun _ => 0)),
  .inl (0, 4, .inl (fun _ => 0)),
  .inl (0, 4, .inl (fun _ => 0)),
  .inl (0, 4, .inl (fun _ => 0)),
  .inl (0, 4, .inl (fun _ => 0)),
  .inl (0, 4, .inl (fun _ => 0)),
  .inl (0, 8, .inl (fun _ => 0)),
  .inl (4, 6, .inr (.inr (.inr (.inr (fun _ => none))))),
  .inr (2, [.ref 43, .int 0, .ref 44, .int 0]),
  .inl (1, 128, .inr (.inl (fun _ => 0))),
  .inl (1, 32, .inr (.inl (fun _ => 0))),
  .inr (4, [.ref 46, .int 0, .ref 47]),
  .inl (2, 64, .inl (fun _ => 0)),
  .inl (2, 10, .inl (fun _ => 0)),
  .inr (9, [.int 0, .int 0, .int 0, .int 0, .int 0, .int 0, .int 0, .int (-1), .int 0]),
  .inr (3, [.ref 42, .ref 45, .ref 48, .ref 58, .ref 59, .ref 50, .ref 51, .ref 52, .int 0, .ref 53, .ref 54, .int 0, .ref 55, .ref 56, .ref 57, .int 0, .null, .int 0, .int 0]),
  .inl (1, 8, .inr (.inl (fun _ => 0))),
  .inl (3, 8, .inl (fun _ => 0)),
  .inl (1, 32, .inr (.inl (fun _ => 0))),
  .inl (0, 10, .inl (fun _ => 0)),
  .inl (0, 10, .inl (fun _ => 0)),
  .inl (0, 8, .inl (fun _ => 0)),
  .inl (0, 8, .inl (fun _ => 0)),
  .inl (0, 8, .inl (fun _ => 0)),
  .inr (8, [.ref 42, .int 0]),
  .inr (1, [.ref 42, .ref 60]),
  .inl (0, 64, .inl (fun _ => 0)),
  .inr (13, [.ref 62, .ref 63, .ref 64, .int 0, .int 0, .int 0, .int 0, .long 0, .int 0, .int 0, .int 0, .int 0, .int 0, .int 0, .int 0, .int 0, .ref 65, .ref 66, .ref 67, .ref 68, .ref 69, .ref 70, .int 0, .ref 71, .ref 72, .ref 73, .ref 74, .ref 75, .int 0, .int 0, .ref 76, .ref 77, .ref 78, .ref 79, .ref 80, .ref 81, .ref 82, .int 0, .ref 83, .ref 84, .ref 85, .ref 86, .ref 87, .ref 88, .int 0, .int (-1), .int (-1), .ref 89, .int 0, .ref 90, .ref 91, .int 0, .ref 92, .ref 93, .ref 94, .int 0, .int 0, .int 0, .ref 95, .ref 96, .int 0, .int 0, .int 0, .int 0, .int 0, .int 0, .int 0, .int (-1), .int 0, .int 0, .int 0, .ref 97, .ref 98, .int 0, .ref 99, .ref 100, .ref 101, .ref 102, .ref 103, .int 0, .ref 104, .ref 105, .ref 106, .ref 107, .ref 108, .ref 109, .ref 110, .int 0, .int 0, .long 0]),
  .inl (1, 41, .inr (.inl (vp_updL (vp_updL (vp_updL (vp_updL (vp_updL (vp_updL (vp_updL (vp_updL (vp_updL (vp_updL (vp_updL (vp_updL (vp_updL (vp_updL (vp_updL (vp_updL (vp_updL (vp_updL (vp_updL (vp_updL (vp_updL (vp_updL (vp_updL (vp_updL (vp_updL (vp_updL (vp_updL (vp_updL (vp_updL (vp_updL (vp_updL (vp_updL (vp_updL (vp_updL (vp_updL (vp_updL (vp_updL (vp_updL (vp_updL (vp_updL (vp_updL (fun _ => 0) 0 176) 1 249) 2 107681) 3 12387497) 4 4797) 5 257) 6 13903) 7 261347000) 8 9592700) 9 15091) 10 419) 11 13550) 12 188623) 13 315749) 14 151150) 15 365869) 16 1887) 17 381245) 18 334901377) 19 223456) 20 14431) 21 9528) 22 9734) 23 376205) 24 385418) 25 4075223) 26 40187) 27 126893) 28 409469) 29 4085899) 30 208022) 31 394691) 32 92275) 33 2774) 34 321581) 35 125041) 36 11695) 37 8399691) 38 375062) 39 99233) 40 129361))),
  .inl (0, 30, .inl (upd (upd (upd (upd (upd (upd (upd (upd (upd (upd (upd (upd (upd (upd (upd (upd (upd (upd (upd (fun _ => 0) 0 1) 1 1) 2 1) 3 2) 4 1) 5 1) 6 1) 7 1) 8 1) 9 1) 10 1) 11 1) 12 1) 13 1) 14 1) 15 1) 16 1) 17 1) 18 1)),
  .inl (2, 1620, .inl (fun _ => 0)),
  .inl (1, 24, .inr (.inl (fun _ => 0))),
  .inl (0, 24, .inl (fun _ => 0)),
  .inl (0, 24, .inl (fun _ => 0)),
  .inl (0, 24, .inl (fun _ => 0)),
  .inl (0, 24, .inl (fun _ => 0)),
  .inl (1, 14, .inr (.inl (fun _ => 0))),
  .inl (0, 8000, .inl (fun _ => 0)),
  .inl (0, 8000, .inl (fun _ => 0)),
  .inl (0, 8000, .inl (fun _ => 0)),
  .inl (0, 8000, .inl (fun _ => 0)),
  .inl (0, 8000, .inl (fun _ => 0)),
  .inl (0, 800, .inl (fun _ => 0)),
  .inl (0, 800, .inl (fun _ => 0)),
  .inl (0, 800, .inl (fun _ => 0)),
  .inl (1, 800, .inr (.inl (fun _ => 0))),
  .inl (0, 12, .inl (fun _ => 0)),
  .inl (0, 12, .inl (fun _ => 0)),
  .inl (0, 12, .inl (fun _ => 0)),
  .inl (0, 80, .inl (fun _ => 0)),
  .inl (0, 80, .inl (fun _ => 0)),
  .inl (0, 80, .inl (fun _ => 0)),
  .inl (0, 80, .inl (fun _ => 0)),
  .inl (1, 80, .inr (.inl (fun _ => 0))),
  .inl (0, 80, .inl (fun _ => 0)),
  .inl (0, 166300, .inl (fun _ => 0)),
  .inl (0, 9000, .inl (fun _ => 0)),
  .inl (0, 9000, .inl (fun _ => 0)),
  .inl (0, 8, .inl (fun _ => 0)),
  .inl (0, 8, .inl (fun _ => 0)),
  .inl (0, 8, .inl (fun _ => 0)),
  .inl (0, 700, .inl (fun _ => 0)),
  .inl (0, 700, .inl (fun _ => 0)),
  .inl (0, 8, .inl (fun _ => 0)),
  .inl (0, 8, .inl (fun _ => 0)),
  .inl (0, 10, .inl (fun _ => 0)),
  .inl (0, 10, .inl (fun _ => 0)),
  .inl (0, 10, .inl (fun _ => 0)),
  .inl (0, 140, .inl (fun _ => 0)),
  .inl (0, 140, .inl (fun _ => 0)),
  .inl (0, 400, .inl (fun _ => 0)),
  .inl (0, 400, .inl (fun _ => 0)),
  .inl (0, 400, .inl (fun _ => 0)),
  .inl (0, 400, .inl (fun _ => 0)),
  .inl (0, 400, .inl (fun _ => 0)),
  .inl (0, 400, .inl (fun _ => 0)),
  .inl (2, 600, .inl (fun _ => 0))]
set_option maxRecDepth 100000 in
theorem zv_2_19 : (fun X : Nat → Option zz_C => zz_go zt_tf zt_fd X 40 zm_56 748 [(1, .int 17), (0, .ref 61)] [] zv_m18) = (fun _ => some ((729, [(1, .int 19), (0, .ref 61)], [.int 19, .int 19, .ref 63]), zv_m19)) := by rfl
def zv_m20 : zz_H := [.inr (12, [.ref 1, .int 0, .ref 2, .ref 12, .ref 21, .int (-1), .int (-1), .ref 30, .ref 41, .int 0, .ref 42, .ref 45, .ref 48, .ref 49]),
  .inl (2, 320, .inl (fun _ => 0)),
  .inr (5, [.ref 3, .null, .int 0, .ref 7, .int 0, .ref 8, .ref 9, .ref 10, .ref 11, .int 0, .int 0, .int 0]),
  .inr (10, [.ref 4, .ref 5, .ref 6, .int 0, .int 0, .int 0, .int 0, .long 0]),
  .inl (0, 32, .inl (fun _ => 0)),
  .inl (0, 32, .inl (fun _ => 0)),
  .inl (1, 32, .inr (.inl (fun _ => 0))),
  .inl (1, 14, .inr (.inl (fun _ => 0))),
  .inl (0, 8, .inl (fun _ => 0)),
  .inl (1, 8, .inr (.inl (fun _ => 0))),
  .inl (0, 8, .inl (fun _ => 0)),
  .inl (0, 8, .inl (fun _ => 0)),
  .inr (6, [.ref 13, .ref 14, .ref 15, .int 0, .int 0, .ref 16, .ref 17, .ref 18, .ref 19, .ref 20]),
  .inl (0, 32, .inl (fun _ => 0)),
  .inl (0, 32, .inl (fun _ => 0)),
  .inl (0, 32, .inl (fun _ => 0)),
  .inl (1, 12, .inr (.inl (fun _ => 0))),
  .inl (0, 12, .inl (fun _ => 0)),
  .inl (0, 12, .inl (fun _ => 0)),
  .inl (0, 12, .inl (fun _ => 0)),
  .inl (0, 12, .inl (fun _ => 0)),
  .inr (6, [.ref 22, .ref 23, .ref 24, .int 0, .int 0, .ref 25, .ref 26, .ref 27, .ref 28, .ref 29]),
  .inl (0, 32, .inl (fun _ => 0)),
  .inl (0, 32, .inl (fun _ => 0)),
  .inl (0, 32, .inl (fun _ => 0)),
  .inl (1, 12, .inr (.inl (fun _ => 0))),
  .inl (0, 12, .inl (fun _ => 0)),
  .inl (0, 12, .inl (fun _ => 0)),
  .inl (0, 12, .inl (fun _ => 0)),
  .inl (0, 12, .inl (fun _ => 0)),
  .inr (7, [.ref 31, .ref 40, .int 0]),
  .inl (5, 8, .inr (.inr (.inr (.inr (fun i => if i < 8 then some (32 + i) else none))))),
  .inl (0, 4, .inl (fun _ => 0)),
  .inl (0, 4, .inl (fun _ => 0)),
  .inl (0, 4, .inl (fun _ => 0)),
  .inl (0, 4, .inl (fun _ => 0)),
  .inl (0, 4, .inl (fun _ => 0)),
  .inl (0, 4, .inl (fun _ => 0)),
  .inl (0, 4, .inl (fun _ => 0)),
  .inl (0, 4, .inl (fun _ => 0)),
  .inl (0, 8, .inl (fun _ => 0)),
  .inl (4, 6, .inr (.inr (.inr (.inr (fun _ => none))))),
  .inr (2, [.ref 43, .int 0, .ref 44, .int 0]),
  .inl (1, 128, .inr (.inl (fun _ => 0))),
  .inl (1, 32, .inr (.inl (fun _ => 0))),
  .inr (4, [.ref 46, .int 0, .ref 47]),
  .inl (2, 64, .inl (fun _ => 0)),
  .inl (2, 10, .inl (fun _ => 0)),
  .inr (9, [.int 0, .int 0, .int 0, .int 0, .int 0, .int 0, .int 0, .int (-1), .int 0]),
  .inr (3, [.ref 42, .ref 45, .ref 48, .ref 58, .ref 59, .ref 50, .ref 51, .ref 52, .int 0, .ref 53, .ref 54, .int 0, .ref 55, .ref 56, .ref 57, .int 0, .null, .int 0, .int 0]),
  .inl (1, 8, .inr (.inl (fun _ => 0))),
  .inl (3, 8, .inl (fun _ => 0)),
  .inl (1, 32, .inr (.inl (fun _ => 0))),
  .inl (0, 10, .inl (fun _ => 0)),
  .inl (0, 10, .inl (fun _ => 0)),
  .inl (0, 8, .inl (fun _ => 0)),
  .inl (0, 8, .inl (fun _ => 0)),
  .inl (0, 8, .inl (fun _ => 0)),
  .inr (8, [.ref 42, .int 0]),
  .inr (1, [.ref 42, .ref 60]),
  .inl (0, 64, .inl (fun _ => 0)),
  .inr (13, [.ref 62, .ref 63, .ref 64, .int 0, .int 0, .int 0, .int 0, .long 0, .int 0, .int 0, .int 0, .int 0, .int 0, .int 0, .int 0, .int 0, .ref 65, .ref 66, .ref 67, .ref 68, .ref 69, .ref 70, .int 0, .ref 71, .ref 72, .ref 73, .ref 74, .ref 75, .int 0, .int 0, .ref 76, .ref 77, .ref 78, .ref 79, .ref 80, .ref 81, .ref 82, .int 0, .ref 83, .ref 84, .ref 85, .ref 86, .ref 87, .ref 88, .int 0, .int (-1), .int (-1), .ref 89, .int 0, .ref 90, .ref 91, .int 0, .ref 92, .ref 93, .ref 94, .int 0, .int 0, .int 0, .ref 95, .ref 96, .int 0, .int 0, .int 0, .int 0, .int 0, .int 0, .int 0, .int (-1), .int 0, .int 0, .int 0, .ref 97, .ref 98, .int 0, .ref 99, .ref 100, .ref 101, .ref 102, .ref 103, .int 0, .ref 104, .ref 105, .ref 106, .ref 107, .ref 108, .ref 109, .ref 110, .int 0, .int 0, .long 0]),
  .inl (1, 41, .inr (.inl (vp_updL (vp_updL (vp_updL (vp_updL (vp_updL (vp_updL (vp_updL (vp_updL (vp_updL (vp_updL (vp_updL (vp_updL (vp_updL (vp_updL (vp_updL (vp_updL (vp_updL (vp_updL (vp_updL (vp_updL (vp_updL (vp_updL (vp_updL (vp_updL (vp_updL (vp_updL (vp_updL (vp_updL (vp_updL (vp_updL (vp_updL (vp_updL (vp_updL (vp_updL (vp_updL (vp_updL (vp_updL (vp_updL (vp_updL (vp_updL (vp_updL (fun _ => 0) 0 176) 1 249) 2 107681) 3 12387497) 4 4797) 5 257) 6 13903) 7 261347000) 8 9592700) 9 15091) 10 419) 11 13550) 12 188623) 13 315749) 14 151150) 15 365869) 16 1887) 17 381245) 18 334901377) 19 223456) 20 14431) 21 9528) 22 9734) 23 376205) 24 385418) 25 4075223) 26 40187) 27 126893) 28 409469) 29 4085899) 30 208022) 31 394691) 32 92275) 33 2774) 34 321581) 35 125041) 36 11695) 37 8399691) 38 375062) 39 99233) 40 129361))),
  .inl (0, 30, .inl (upd (upd (upd (upd (upd (upd (upd (upd (upd (upd (upd (upd (upd (upd (upd (upd (upd (upd (upd (upd (upd (fun _ => 0) 0 1) 1 1) 2 1) 3 2) 4 1) 5 1) 6 1) 7 1) 8 1) 9 1) 10 1) 11 1) 12 1) 13 1) 14 1) 15 1) 16 1) 17 1) 18 1) 19 2) 20 2)),
  .inl (2, 1620, .inl (fun _ => 0)),
  .inl (1, 24, .inr (.inl (fun _ => 0))),
  .inl (0, 24, .inl (fun _ => 0)),
  .inl (0, 24, .inl (fun _ => 0)),
  .inl (0, 24, .inl (fun _ => 0)),
  .inl (0, 24, .inl (fun _ => 0)),
  .inl (1, 14, .inr (.inl (fun _ => 0))),
  .inl (0, 8000, .inl (fun _ => 0)),
  .inl (0, 8000, .inl (fun _ => 0)),
  .inl (0, 8000, .inl (fun _ => 0)),
  .inl (0, 8000, .inl (fun _ => 0)),
  .inl (0, 8000, .inl (fun _ => 0)),
  .inl (0, 800, .inl (fun _ => 0)),
  .inl (0, 800, .inl (fun _ => 0)),
  .inl (0, 800, .inl (fun _ => 0)),
  .inl (1, 800, .inr (.inl (fun _ => 0))),
  .inl (0, 12, .inl (fun _ => 0)),
  .inl (0, 12, .inl (fun _ => 0)),
  .inl (0, 12, .inl (fun _ => 0)),
  .inl (0, 80, .inl (fun _ => 0)),
  .inl (0, 80, .inl (fun _ => 0)),
  .inl (0, 80, .inl (fun _ => 0)),
  .inl (0, 80, .inl (fun _ => 0)),
  .inl (1, 80, .inr (.inl (fun _ => 0))),
  .inl (0, 80, .inl (fun _ => 0)),
  .inl (0, 166300, .inl (fun _ => 0)),
  .inl (0, 9000, .inl (fun _ => 0)),
  .inl (0, 9000, .inl (fun _ => 0)),
  .inl (0, 8, .inl (fun _ => 0)),
  .inl (0, 8, .inl (fun _ => 0)),
  .inl (0, 8, .inl (fun _ => 0)),
  .inl (0, 700, .inl (fun _ => 0)),
  .inl (0, 700, .inl (fun _ => 0)),
  .inl (0, 8, .inl (fun _ => 0)),
  .inl (0, 8, .inl (fun _ => 0)),
  .inl (0, 10, .inl (fun _ => 0)),
  .inl (0, 10, .inl (fun _ => 0)),
  .inl (0, 10, .inl (fun _ => 0)),
  .inl (0, 140, .inl (fun _ => 0)),
  .inl (0, 140, .inl (fun _ => 0)),
  .inl (0, 400, .inl (fun _ => 0)),
  .inl (0, 400, .inl (fun _ => 0)),
  .inl (0, 400, .inl (fun _ => 0)),
  .inl (0, 400, .inl (fun _ => 0)),
  .inl (0, 400, .inl (fun _ => 0)),
  .inl (0, 400, .inl (fun _ => 0)),
  .inl (2, 600, .inl (fun _ => 0))]
set_option maxRecDepth 100000 in
theorem zv_2_20 : (fun X : Nat → Option zz_C => zz_go zt_tf zt_fd X 40 zm_56 729 [(1, .int 19), (0, .ref 61)] [.int 19, .int 19, .ref 63] zv_m19) = (fun _ => some ((740, [(1, .int 21), (0, .ref 61)], [.int 2, .int 21, .ref 63]), zv_m20)) := by rfl
def zv_m21 : zz_H := [.inr (12, [.ref 1, .int 0, .ref 2, .ref 12, .ref 21, .int (-1), .int (-1), .ref 30, .ref 41, .int 0, .ref 42, .ref 45, .ref 48, .ref 49]),
  .inl (2, 320, .inl (fun _ => 0)),
  .inr (5, [.ref 3, .null, .int 0, .ref 7, .int 0, .ref 8, .ref 9, .ref 10, .ref 11, .int 0, .int 0, .int 0]),
  .inr (10, [.ref 4, .ref 5, .ref 6, .int 0, .int 0, .int 0, .int 0, .long 0]),
  .inl (0, 32, .inl (fun _ => 0)),
  .inl (0, 32, .inl (fun _ => 0)),
  .inl (1, 32, .inr (.inl (fun _ => 0))),
  .inl (1, 14, .inr (.inl (fun _ => 0))),
  .inl (0, 8, .inl (fun _ => 0)),
  .inl (1, 8, .inr (.inl (fun _ => 0))),
  .inl (0, 8, .inl (fun _ => 0)),
  .inl (0, 8, .inl (fun _ => 0)),
  .inr (6, [.ref 13, .ref 14, .ref 15, .int 0, .int 0, .ref 16, .ref 17, .ref 18, .ref 19, .ref 20]),
  .inl (0, 32, .inl (fun _ => 0)),
  .inl (0, 32, .inl (fun _ => 0)),
  .inl (0, 32, .inl (fun _ => 0)),
  .inl (1, 12, .inr (.inl (fun _ => 0))),
  .inl (0, 12, .inl (fun _ => 0)),
  .inl (0, 12, .inl (fun _ => 0)),
  .inl (0, 12, .inl (fun _ => 0)),
  .inl (0, 12, .inl (fun _ => 0)),
  .inr (6, [.ref 22, .ref 23, .ref 24, .int 0, .int 0, .ref 25, .ref 26, .ref 27, .ref 28, .ref 29]),
  .inl (0, 32, .inl (fun _ => 0)),
  .inl (0, 32, .inl (fun _ => 0)),
  .inl (0, 32, .inl (fun _ => 0)),
  .inl (1, 12, .inr (.inl (fun _ => 0))),
  .inl (0, 12, .inl (fun _ => 0)),
  .inl (0, 12, .inl (fun _ => 0)),
  .inl (0, 12, .inl (fun _ => 0)),
  .inl (0, 12, .inl (fun _ => 0)),
  .inr (7, [.ref 31, .ref 40, .int 0]),
  .inl (5, 8, .inr (.inr (.inr (.inr (fun i => if i < 8 then some (32 + i) else none))))),
  .inl (0, 4, .inl (fun _ => 0)),
  .inl (0, 4, .inl (fun _ => 0)),
  .inl (0, 4, .inl (fun _ => 0)),
  .inl (0, 4, .inl (fun _ => 0)),
  .inl (0, 4, .inl (fun _ => 0)),
  .inl (0, 4, .inl (fun _ => 0)),
  .inl (0, 4, .inl (fun _ => 0)),
  .inl (0, 4, .inl (fun _ => 0)),
  .inl (0, 8, .inl (fun _ => 0)),
  .inl (4, 6, .inr (.inr (.inr (.inr (fun _ => none))))),
  .inr (2, [.ref 43, .int 0, .ref 44, .int 0]),
  .inl (1, 128, .inr (.inl (fun _ => 0))),
  .inl (1, 32, .inr (.inl (fun _ => 0))),
  .inr (4, [.ref 46, .int 0, .ref 47]),
  .inl (2, 64, .inl (fun _ => 0)),
  .inl (2, 10, .inl (fun _ => 0)),
  .inr (9, [.int 0, .int 0, .int 0, .int 0, .int 0, .int 0, .int 0, .int (-1), .int 0]),
  .inr (3, [.ref 42, .ref 45, .ref 48, .ref 58, .ref 59, .ref 50, .ref 51, .ref 52, .int 0, .ref 53, .ref 54, .int 0, .ref 55, .ref 56, .ref 57, .int 0, .null, .int 0, .int 0]),
  .inl (1, 8, .inr (.inl (fun _ => 0))),
  .inl (3, 8, .inl (fun _ => 0)),
  .inl (1, 32, .inr (.inl (fun _ => 0))),
  .inl (0, 10, .inl (fun _ => 0)),
  .inl (0, 10, .inl (fun _ => 0)),
  .inl (0, 8, .inl (fun _ => 0)),
  .inl (0, 8, .inl (fun _ => 0)),
  .inl (0, 8, .inl (fun _ => 0)),
  .inr (8, [.ref 42, .int 0]),
  .inr (1, [.ref 42, .ref 60]),
  .inl (0, 64, .inl (fun _ => 0)),
  .inr (13, [.ref 62, .ref 63, .ref 64, .int 0, .int 0, .int 0, .int 0, .long 0, .int 0, .int 0, .int 0, .int 0, .int 0, .int 0, .int 0, .int 0, .ref 65, .ref 66, .ref 67, .ref 68, .ref 69, .ref 70, .int 0, .ref 71, .ref 72, .ref 73, .ref 74, .ref 75, .int 0, .int 0, .ref 76, .ref 77, .ref 78, .ref 79, .ref 80, .ref 81, .ref 82, .int 0, .ref 83, .ref 84, .ref 85, .ref 86, .ref 87, .ref 88, .int 0, .int (-1), .int (-1), .ref 89, .int 0, .ref 90, .ref 91, .int 0, .ref 92, .ref 93, .ref 94, .int 0, .int 0, .int 0, .ref 95, .ref 96, .int 0, .int 0, .int 0, .int 0, .int 0, .int 0, .int 0, .int (-1), .int 0, .int 0, .int 0, .ref 97, .ref 98, .int 0, .ref 99, .ref 100, .ref 101, .ref 102, .ref 103, .int 0, .ref 104, .ref 105, .ref 106, .ref 107, .ref 108, .ref 109, .ref 110, .int 0, .int 0, .long 0]),
  .inl (1, 41, .inr (.inl (vp_updL (vp_updL (vp_updL (vp_updL (vp_updL (vp_updL (vp_updL (vp_updL (vp_updL (vp_updL (vp_updL (vp_updL (vp_updL (vp_updL (vp_updL (vp_updL (vp_updL (vp_updL (vp_updL (vp_updL (vp_updL (vp_updL (vp_updL (vp_updL (vp_updL (vp_updL (vp_updL (vp_updL (vp_updL (vp_updL (vp_updL (vp_updL (vp_updL (vp_updL (vp_updL (vp_updL (vp_updL (vp_updL (vp_updL (vp_updL (vp_updL (fun _ => 0) 0 176) 1 249) 2 107681) 3 12387497) 4 4797) 5 257) 6 13903) 7 261347000) 8 9592700) 9 15091) 10 419) 11 13550) 12 188623) 13 315749) 14 151150) 15 365869) 16 1887) 17 381245) 18 334901377) 19 223456) 20 14431) 21 9528) 22 9734) 23 376205) 24 385418) 25 4075223) 26 40187) 27 126893) 28 409469) 29 4085899) 30 208022) 31 394691) 32 92275) 33 2774) 34 321581) 35 125041) 36 11695) 37 8399691) 38 375062) 39 99233) 40 129361))),
  .inl (0, 30, .inl (upd (upd (upd (upd (upd (upd (upd (upd (upd (upd (upd (upd (upd (upd (upd (upd (upd (upd (upd (upd (upd (upd (upd (upd (fun _ => 0) 0 1) 1 1) 2 1) 3 2) 4 1) 5 1) 6 1) 7 1) 8 1) 9 1) 10 1) 11 1) 12 1) 13 1) 14 1) 15 1) 16 1) 17 1) 18 1) 19 2) 20 2) 21 2) 22 2) 23 2)),
  .inl (2, 1620, .inl (fun _ => 0)),
  .inl (1, 24, .inr (.inl (fun _ => 0))),
  .inl (0, 24, .inl (fun _ => 0)),
  .inl (0, 24, .inl (fun _ => 0)),
  .inl (0, 24, .inl (fun _ => 0)),
  .inl (0, 24, .inl (fun _ => 0)),
  .inl (1, 14, .inr (.inl (fun _ => 0))),
  .inl (0, 8000, .inl (fun _ => 0)),
  .inl (0, 8000, .inl (fun _ => 0)),
  .inl (0, 8000, .inl (fun _ => 0)),
  .inl (0, 8000, .inl (fun _ => 0)),
  .inl (0, 8000, .inl (fun _ => 0)),
  .inl (0, 800, .inl (fun _ => 0)),
  .inl (0, 800, .inl (fun _ => 0)),
  .inl (0, 800, .inl (fun _ => 0)),
  .inl (1, 800, .inr (.inl (fun _ => 0))),
  .inl (0, 12, .inl (fun _ => 0)),
  .inl (0, 12, .inl (fun _ => 0)),
  .inl (0, 12, .inl (fun _ => 0)),
  .inl (0, 80, .inl (fun _ => 0)),
  .inl (0, 80, .inl (fun _ => 0)),
  .inl (0, 80, .inl (fun _ => 0)),
  .inl (0, 80, .inl (fun _ => 0)),
  .inl (1, 80, .inr (.inl (fun _ => 0))),
  .inl (0, 80, .inl (fun _ => 0)),
  .inl (0, 166300, .inl (fun _ => 0)),
  .inl (0, 9000, .inl (fun _ => 0)),
  .inl (0, 9000, .inl (fun _ => 0)),
  .inl (0, 8, .inl (fun _ => 0)),
  .inl (0, 8, .inl (fun _ => 0)),
  .inl (0, 8, .inl (fun _ => 0)),
  .inl (0, 700, .inl (fun _ => 0)),
  .inl (0, 700, .inl (fun _ => 0)),
  .inl (0, 8, .inl (fun _ => 0)),
  .inl (0, 8, .inl (fun _ => 0)),
  .inl (0, 10, .inl (fun _ => 0)),
  .inl (0, 10, .inl (fun _ => 0)),
  .inl (0, 10, .inl (fun _ => 0)),
  .inl (0, 140, .inl (fun _ => 0)),
  .inl (0, 140, .inl (fun _ => 0)),
  .inl (0, 400, .inl (fun _ => 0)),
  .inl (0, 400, .inl (fun _ => 0)),
  .inl (0, 400, .inl (fun _ => 0)),
  .inl (0, 400, .inl (fun _ => 0)),
  .inl (0, 400, .inl (fun _ => 0)),
  .inl (0, 400, .inl (fun _ => 0)),
  .inl (2, 600, .inl (fun _ => 0))]
set_option maxRecDepth 100000 in
theorem zv_2_21 : (fun X : Nat → Option zz_C => zz_go zt_tf zt_fd X 40 zm_56 740 [(1, .int 21), (0, .ref 61)] [.int 2, .int 21, .ref 63] zv_m20) = (fun _ => some ((720, [(1, .int 24), (0, .ref 61)], [.int 30, .int 24]), zv_m21)) := by rfl
def zv_m22 : zz_H := [.inr (12, [.ref 1, .int 0, .ref 2, .ref 12, .ref 21, .int (-1), .int (-1), .ref 30, .ref 41, .int 0, .ref 42, .ref 45, .ref 48, .ref 49]),
  .inl (2, 320, .inl (fun _ => 0)),
  .inr (5, [.ref 3, .null, .int 0, .ref 7, .int 0, .ref 8, .ref 9, .ref 10, .ref 11, .int 0, .int 0, .int 0]),
  .inr (10, [.ref 4, .ref 5, .ref 6, .int 0, .int 0, .int 0, .int 0, .long 0]),
  .inl (0, 32, .inl (fun _ => 0)),
  .inl (0, 32, .inl (fun _ => 0)),
  .inl (1, 32, .inr (.inl (fun _ => 0))),
  .inl (1, 14, .inr (.inl (fun _ => 0))),
  .inl (0, 8, .inl (fun _ => 0)),
  .inl (1, 8, .inr (.inl (fun _ => 0))),
  .inl (0, 8, .inl (fun _ => 0)),
  .inl (0, 8, .inl (fun _ => 0)),
  .inr (6, [.ref 13, .ref 14, .ref 15, .int 0, .int 0, .ref 16, .ref 17, .ref 18, .ref 19, .ref 20]),
  .inl (0, 32, .inl (fun _ => 0)),
  .inl (0, 32, .inl (fun _ => 0)),
  .inl (0, 32, .inl (fun _ => 0)),
  .inl (1, 12, .inr (.inl (fun _ => 0))),
  .inl (0, 12, .inl (fun _ => 0)),
  .inl (0, 12, .inl (fun _ => 0)),
  .inl (0, 12, .inl (fun _ => 0)),
  .inl (0, 12, .inl (fun _ => 0)),
  .inr (6, [.ref 22, .ref 23, .ref 24, .int 0, .int 0, .ref 25, .ref 26, .ref 27, .ref 28, .ref 29]),
  .inl (0, 32, .inl (fun _ => 0)),
  .inl (0, 32, .inl (fun _ => 0)),
  .inl (0, 32, .inl (fun _ => 0)),
  .inl (1, 12, .inr (.inl (fun _ => 0))),
  .inl (0, 12, .inl (fun _ => 0)),
  .inl (0, 12, .inl (fun _ => 0)),
  .inl (0, 12, .inl (fun _ => 0)),
  .inl (0, 12, .inl (fun _ => 0)),
  .inr (7, [.ref 31, .ref 40, .int 0]),
  .inl (5, 8, .inr (.inr (.inr (.inr (fun i => if i < 8 then some (32 + i) else none))))),
  .inl (0, 4, .inl (fun _ => 0)),
  .inl (0, 4, .inl (fun _ => 0)),
  .inl (0, 4, .inl (fun _ => 0)),
  .inl (0, 4, .inl (fun _ => 0)),
  .inl (0, 4, .inl (fun _ => 0)),
  .inl (0, 4, .inl (fun _ => 0)),
  .inl (0, 4, .inl (fun _ => 0)),
  .inl (0, 4, .inl (fun _ => 0)),
  .inl (0, 8, .inl (fun _ => 0)),
  .inl (4, 6, .inr (.inr (.inr (.inr (fun _ => none))))),
  .inr (2, [.ref 43, .int 0, .ref 44, .int 0]),
  .inl (1, 128, .inr (.inl (fun _ => 0))),
  .inl (1, 32, .inr (.inl (fun _ => 0))),
  .inr (4, [.ref 46, .int 0, .ref 47]),
  .inl (2, 64, .inl (fun _ => 0)),
  .inl (2, 10, .inl (fun _ => 0)),
  .inr (9, [.int 0, .int 0, .int 0, .int 0, .int 0, .int 0, .int 0, .int (-1), .int 0]),
  .inr (3, [.ref 42, .ref 45, .ref 48, .ref 58, .ref 59, .ref 50, .ref 51, .ref 52, .int 0, .ref 53, .ref 54, .int 0, .ref 55, .ref 56, .ref 57, .int 0, .null, .int 0, .int 0]),
  .inl (1, 8, .inr (.inl (fun _ => 0))),
  .inl (3, 8, .inl (fun _ => 0)),
  .inl (1, 32, .inr (.inl (fun _ => 0))),
  .inl (0, 10, .inl (fun _ => 0)),
  .inl (0, 10, .inl (fun _ => 0)),
  .inl (0, 8, .inl (fun _ => 0)),
  .inl (0, 8, .inl (fun _ => 0)),
  .inl (0, 8, .inl (fun _ => 0)),
  .inr (8, [.ref 42, .int 0]),
  .inr (1, [.ref 42, .ref 60]),
  .inl (0, 64, .inl (fun _ => 0)),
  .inr (13, [.ref 62, .ref 63, .ref 64, .int 0, .int 0, .int 0, .int 0, .long 0, .int 0, .int 0, .int 0, .int 0, .int 0, .int 0, .int 0, .int 0, .ref 65, .ref 66, .ref 67, .ref 68, .ref 69, .ref 70, .int 0, .ref 71, .ref 72, .ref 73, .ref 74, .ref 75, .int 0, .int 0, .ref 76, .ref 77, .ref 78, .ref 79, .ref 80, .ref 81, .ref 82, .int 0, .ref 83, .ref 84, .ref 85, .ref 86, .ref 87, .ref 88, .int 0, .int (-1), .int (-1), .ref 89, .int 0, .ref 90, .ref 91, .int 0, .ref 92, .ref 93, .ref 94, .int 0, .int 0, .int 0, .ref 95, .ref 96, .int 0, .int 0, .int 0, .int 0, .int 0, .int 0, .int 0, .int (-1), .int 0, .int 0, .int 0, .ref 97, .ref 98, .int 0, .ref 99, .ref 100, .ref 101, .ref 102, .ref 103, .int 0, .ref 104, .ref 105, .ref 106, .ref 107, .ref 108, .ref 109, .ref 110, .int 0, .int 0, .long 0]),
  .inl (1, 41, .inr (.inl (vp_updL (vp_updL (vp_updL (vp_updL (vp_updL (vp_updL (vp_updL (vp_updL (vp_updL (vp_updL (vp_updL (vp_updL (vp_updL (vp_updL (vp_updL (vp_updL (vp_updL (vp_updL (vp_updL (vp_updL (vp_updL (vp_updL (vp_updL (vp_updL (vp_updL (vp_updL (vp_updL (vp_updL (vp_updL (vp_updL (vp_updL (vp_updL (vp_updL (vp_updL (vp_updL (vp_updL (vp_updL (vp_updL (vp_updL (vp_updL (vp_updL (fun _ => 0) 0 176) 1 249) 2 107681) 3 12387497) 4 4797) 5 257) 6 13903) 7 261347000) 8 9592700) 9 15091) 10 419) 11 13550) 12 188623) 13 315749) 14 151150) 15 365869) 16 1887) 17 381245) 18 334901377) 19 223456) 20 14431) 21 9528) 22 9734) 23 376205) 24 385418) 25 4075223) 26 40187) 27 126893) 28 409469) 29 4085899) 30 208022) 31 394691) 32 92275) 33 2774) 34 321581) 35 125041) 36 11695) 37 8399691) 38 375062) 39 99233) 40 129361))),
  .inl (0, 30, .inl (upd (upd (upd (upd (upd (upd (upd (upd (upd (upd (upd (upd (upd (upd (upd (upd (upd (upd (upd (upd (upd (upd (upd (upd (upd (upd (fun _ => 0) 0 1) 1 1) 2 1) 3 2) 4 1) 5 1) 6 1) 7 1) 8 1) 9 1) 10 1) 11 1) 12 1) 13 1) 14 1) 15 1) 16 1) 17 1) 18 1) 19 2) 20 2) 21 2) 22 2) 23 2) 24 2) 25 2)),
  .inl (2, 1620, .inl (fun _ => 0)),
  .inl (1, 24, .inr (.inl (fun _ => 0))),
  .inl (0, 24, .inl (fun _ => 0)),
  .inl (0, 24, .inl (fun _ => 0)),
  .inl (0, 24, .inl (fun _ => 0)),
  .inl (0, 24, .inl (fun _ => 0)),
  .inl (1, 14, .inr (.inl (fun _ => 0))),
  .inl (0, 8000, .inl (fun _ => 0)),
  .inl (0, 8000, .inl (fun _ => 0)),
  .inl (0, 8000, .inl (fun _ => 0)),
  .inl (0, 8000, .inl (fun _ => 0)),
  .inl (0, 8000, .inl (fun _ => 0)),
  .inl (0, 800, .inl (fun _ => 0)),
  .inl (0, 800, .inl (fun _ => 0)),
  .inl (0, 800, .inl (fun _ => 0)),
  .inl (1, 800, .inr (.inl (fun _ => 0))),
  .inl (0, 12, .inl (fun _ => 0)),
  .inl (0, 12, .inl (fun _ => 0)),
  .inl (0, 12, .inl (fun _ => 0)),
  .inl (0, 80, .inl (fun _ => 0)),
  .inl (0, 80, .inl (fun _ => 0)),
  .inl (0, 80, .inl (fun _ => 0)),
  .inl (0, 80, .inl (fun _ => 0)),
  .inl (1, 80, .inr (.inl (fun _ => 0))),
  .inl (0, 80, .inl (fun _ => 0)),
  .inl (0, 166300, .inl (fun _ => 0)),
  .inl (0, 9000, .inl (fun _ => 0)),
  .inl (0, 9000, .inl (fun _ => 0)),
  .inl (0, 8, .inl (fun _ => 0)),
  .inl (0, 8, .inl (fun _ => 0)),
  .inl (0, 8, .inl (fun _ => 0)),
  .inl (0, 700, .inl (fun _ => 0)),
  .inl (0, 700, .inl (fun _ => 0)),
  .inl (0, 8, .inl (fun _ => 0)),
  .inl (0, 8, .inl (fun _ => 0)),
  .inl (0, 10, .inl (fun _ => 0)),
  .inl (0, 10, .inl (fun _ => 0)),
  .inl (0, 10, .inl (fun _ => 0)),
  .inl (0, 140, .inl (fun _ => 0)),
  .inl (0, 140, .inl (fun _ => 0)),
  .inl (0, 400, .inl (fun _ => 0)),
  .inl (0, 400, .inl (fun _ => 0)),
  .inl (0, 400, .inl (fun _ => 0)),
  .inl (0, 400, .inl (fun _ => 0)),
  .inl (0, 400, .inl (fun _ => 0)),
  .inl (0, 400, .inl (fun _ => 0)),
  .inl (2, 600, .inl (fun _ => 0))]
set_option maxRecDepth 100000 in
theorem zv_2_22 : (fun X : Nat → Option zz_C => zz_go zt_tf zt_fd X 40 zm_56 720 [(1, .int 24), (0, .ref 61)] [.int 30, .int 24] zv_m21) = (fun _ => some ((730, [(1, .int 26), (0, .ref 61)], [.int 3, .int 26, .int 26, .ref 63]), zv_m22)) := by rfl
def zv_m23 : zz_H := [.inr (12, [.ref 1, .int 0, .ref 2, .ref 12, .ref 21, .int (-1), .int (-1), .ref 30, .ref 41, .int 0, .ref 42, .ref 45, .ref 48, .ref 49]),
  .inl (2, 320, .inl (fun _ => 0)),
  .inr (5, [.ref 3, .null, .int 0, .ref 7, .int 0, .ref 8, .ref 9, .ref 10, .ref 11, .int 0, .int 0, .int 0]),
  .inr (10, [.ref 4, .ref 5, .ref 6, .int 0, .int 0, .int 0, .int 0, .long 0]),
  .inl (0, 32, .inl (fun _ => 0)),
  .inl (0, 32, .inl (fun _ => 0)),
  .inl (1, 32, .inr (.inl (fun _ => 0))),
  .inl (1, 14, .inr (.inl (fun _ => 0))),
  .inl (0, 8, .inl (fun _ => 0)),
  .inl (1, 8, .inr (.inl (fun _ => 0))),
  .inl (0, 8, .inl (fun _ => 0)),
  .inl (0, 8, .inl (fun _ => 0)),
  .inr (6, [.ref 13, .ref 14, .ref 15, .int 0, .int 0, .ref 16, .ref 17, .ref 18, .ref 19, .ref 20]),
  .inl (0, 32, .inl (fun _ => 0)),
  .inl (0, 32, .inl (fun _ => 0)),
  .inl (0, 32, .inl (fun _ => 0)),
  .inl (1, 12, .inr (.inl (fun _ => 0))),
  .inl (0, 12, .inl (fun _ => 0)),
  .inl (0, 12, .inl (fun _ => 0)),
  .inl (0, 12, .inl (fun _ => 0)),
  .inl (0, 12, .inl (fun _ => 0)),
  .inr (6, [.ref 22, .ref 23, .ref 24, .int 0, .int 0, .ref 25, .ref 26, .ref 27, .ref 28, .ref 29]),
  .inl (0, 32, .inl (fun _ => 0)),
  .inl (0, 32, .inl (fun _ => 0)),
  .inl (0, 32, .inl (fun _ => 0)),
  .inl (1, 12, .inr (.inl (fun _ => 0))),
  .inl (0, 12, .inl (fun _ => 0)),
  .inl (0, 12, .inl (fun _ => 0)),
  .inl (0, 12, .inl (fun _ => 0)),
  .inl (0, 12, .inl (fun _ => 0)),
  .inr (7, [.ref 31, .ref 40, .int 0]),
  .inl (5, 8, .inr (.inr (.inr (.inr (fun i => if i < 8 then some (32 + i) else none))))),
  .inl (0, 4, .inl (fun _ => 0)),
  .inl (0, 4, .inl (fun _ => 0)),
  .inl (0, 4, .inl (fun _ => 0)),
  .inl (0, 4, .inl (fun _ => 0)),
  .inl (0, 4, .inl (fun _ => 0)),
  .inl (0, 4, .inl (fun _ => 0)),
  .inl (0, 4, .inl (fun _ => 0)),
  .inl (0, 4, .inl (fun _ => 0)),
  .inl (0, 8, .inl (fun _ => 0)),
  .inl (4, 6, .inr (.inr (.inr (.inr (fun _ => none))))),
  .inr (2, [.ref 43, .int 0, .ref 44, .int 0]),
  .inl (1, 128, .inr (.inl (fun _ => 0))),
  .inl (1, 32, .inr (.inl (fun _ => 0))),
  .inr (4, [.ref 46, .int 0, .ref 47]),
  .inl (2, 64, .inl (fun _ => 0)),
  .inl (2, 10, .inl (fun _ => 0)),
  .inr (9, [.int 0, .int 0, .int 0, .int 0, .int 0, .int 0, .int 0, .int (-1), .int 0]),
  .inr (3, [.ref 42, .ref 45, .ref 48, .ref 58, .ref 59, .ref 50, .ref 51, .ref 52, .int 0, .ref 53, .ref 54, .int 0, .ref 55, .ref 56, .ref 57, .int 0, .null, .int 0, .int 0]),
  .inl (1, 8, .inr (.inl (fun _ => 0))),
  .inl (3, 8, .inl (fun _ => 0)),
  .inl (1, 32, .inr (.inl (fun _ => 0))),
  .inl (0, 10, .inl (fun _ => 0)),
  .inl (0, 10, .inl (fun _ => 0)),
  .inl (0, 8, .inl (fun _ => 0)),
  .inl (0, 8, .inl (fun _ => 0)),
  .inl (0, 8, .inl (fun _ => 0)),
  .inr (8, [.ref 42, .int 0]),
  .inr (1, [.ref 42, .ref 60]),
  .inl (0, 64, .inl (fun _ => 0)),
  .inr (13, [.ref 62, .ref 63, .ref 64, .int 0, .int 0, .int 0, .int 0, .long 0, .int 0, .int 0, .int 0, .int 0, .int 0, .int 0, .int 0, .int 0, .ref 65, .ref 66, .ref 67, .ref 68, .ref 69, .ref 70, .int 0, .ref 71, .ref 72, .ref 73, .ref 74, .ref 75, .int 0, .int 0, .ref 76, .ref 77, .ref 78, .ref 79, .ref 80, .ref 81, .ref 82, .int 0, .ref 83, .ref 84, .ref 85, .ref 86, .ref 87, .ref 88, .int 0, .int (-1), .int (-1), .ref 89, .int 0, .ref 90, .ref 91, .int 0, .ref 92, .ref 93, .ref 94, .int 0, .int 0, .int 0, .ref 95, .ref 96, .int 0, .int 0, .int 0, .int 0, .int 0, .int 0, .int 0, .int (-1), .int 0, .int 0, .int 0, .ref 97, .ref 98, .int 0, .ref 99, .ref 100, .ref 101, .ref 102, .ref 103, .int 0, .ref 104, .ref 105, .ref 106, .ref 107, .ref 108, .ref 109, .ref 110, .int 0, .int 0, .long 0]),
  .inl (1, 41, .inr (.inl (vp_updL (vp_updL (vp_updL (vp_updL (vp_updL (vp_updL (vp_updL (vp_updL (vp_updL (vp_updL (vp_updL (vp_updL (vp_updL (vp_updL (vp_updL (vp_updL (vp_updL (vp_updL (vp_updL (vp_updL (vp_updL (vp_updL (vp_updL (vp_updL (vp_updL (vp_updL (vp_updL (vp_updL (vp_updL (vp_updL (vp_updL (vp_updL (vp_updL (vp_updL (vp_updL (vp_updL (vp_updL (vp_updL (vp_updL (vp_updL (vp_updL (fun _ => 0) 0 176) 1 249) 2 107681) 3 12387497) 4 4797) 5 257) 6 13903) 7 261347000) 8 9592700) 9 15091) 10 419) 11 13550) 12 188623) 13 315749) 14 151150) 15 365869) 16 1887) 17 381245) 18 334901377) 19 223456) 20 14431) 21 9528) 22 9734) 23 376205) 24 385418) 25 4075223) 26 40187) 27 126893) 28 409469) 29 4085899) 30 208022) 31 394691) 32 92275) 33 2774) 34 321581) 35 125041) 36 11695) 37 8399691) 38 375062) 39 99233) 40 129361))),
  .inl (0, 30, .inl (upd (upd (upd (upd (upd (upd (upd (upd (upd (upd (upd (upd (upd (upd (upd (upd (upd (upd (upd (upd (upd (upd (upd (upd (upd (upd (upd (upd (fun _ => 0) 0 1) 1 1) 2 1) 3 2) 4 1) 5 1) 6 1) 7 1) 8 1) 9 1) 10 1) 11 1) 12 1) 13 1) 14 1) 15 1) 16 1) 17 1) 18 1) 19 2) 20 2) 21 2) 22 2) 23 2) 24 2) 25 2) 26 2) 27 2)),
  .inl (2, 1620, .inl (fun _ => 0)),
  .inl (1, 24, .inr (.inl (fun _ => 0))),
  .inl (0, 24, .inl (fun _ => 0)),
  .inl (0, 24, .inl (fun _ => 0)),
  .inl (0, 24, .inl (fun _ => 0)),
  .inl (0, 24, .inl (fun _ => 0)),
  .inl (1, 14, .inr (.inl (fun _ => 0))),
  .inl (0, 8000, .inl (fun _ => 0)),
  .inl (0, 8000, .inl (fun _ => 0)),
  .inl (0, 8000, .inl (fun _ => 0)),
  .inl (0, 8000, .inl (fun _ => 0)),
  .inl (0, 8000, .inl (fun _ => 0)),
  .inl (0, 800, .inl (fun _ => 0)),
  .inl (0, 800, .inl (fun _ => 0)),
  .inl (0, 800, .inl (fun _ => 0)),
  .inl (1, 800, .inr (.inl (fun _ => 0))),
  .inl (0, 12, .inl (fun _ => 0)),
  .inl (0, 12, .inl (fun _ => 0)),
  .inl (0, 12, .inl (fun _ => 0)),
  .inl (0, 80, .inl (fun _ => 0)),
  .inl (0, 80, .inl (fun _ => 0)),
  .inl (0, 80, .inl (fun _ => 0)),
  .inl (0, 80, .inl (fun _ => 0)),
  .inl (1, 80, .inr (.inl (fun _ => 0))),
  .inl (0, 80, .inl (fun _ => 0)),
  .inl (0, 166300, .inl (fun _ => 0)),
  .inl (0, 9000, .inl (fun _ => 0)),
  .inl (0, 9000, .inl (fun _ => 0)),
  .inl (0, 8, .inl (fun _ => 0)),
  .inl (0, 8, .inl (fun _ => 0)),
  .inl (0, 8, .inl (fun _ => 0)),
  .inl (0, 700, .inl (fun _ => 0)),
  .inl (0, 700, .inl (fun _ => 0)),
  .inl (0, 8, .inl (fun _ => 0)),
  .inl (0, 8, .inl (fun _ => 0)),
  .inl (0, 10, .inl (fun _ => 0)),
  .inl (0, 10, .inl (fun _ => 0)),
  .inl (0, 10, .inl (fun _ => 0)),
  .inl (0, 140, .inl (fun _ => 0)),
  .inl (0, 140, .inl (fun _ => 0)),
  .inl (0, 400, .inl (fun _ => 0)),
  .inl (0, 400, .inl (fun _ => 0)),
  .inl (0, 400, .inl (fun _ => 0)),
  .inl (0, 400, .inl (fun _ => 0)),
  .inl (0, 400, .inl (fun _ => 0)),
  .inl (0, 400, .inl (fun _ => 0)),
  .inl (2, 600, .inl (fun _ => 0))]
set_option maxRecDepth 100000 in
theorem zv_2_23 : (fun X : Nat → Option zz_C => zz_go zt_tf zt_fd X 40 zm_56 730 [(1, .int 26), (0, .ref 61)] [.int 3, .int 26, .int 26, .ref 63] zv_m22) = (fun _ => some ((744, [(1, .int 28), (0, .ref 61)], [.int 2, .int 28, .ref 63]), zv_m23)) := by rfl
def zv_m24 : zz_H := [.inr (12, [.ref 1, .int 0, .ref 2, .ref 12, .ref 21, .int (-1), .int (-1), .ref 30, .ref 41, .int 0, .ref 42, .ref 45, .ref 48, .ref 49]),
  .inl (2, 320, .inl (fun _ => 0)),
  .inr (5, [.ref 3, .null, .int 0, .ref 7, .int 0, .ref 8, .ref 9, .ref 10, .ref 11, .int 0, .int 0, .int 0]),
  .inr (10, [.ref 4, .ref 5, .ref 6, .int 0, .int 0, .int 0, .int 0, .long 0]),
  .inl (0, 32, .inl (fun _ => 0)),
  .inl (0, 32, .inl (fun _ => 0)),
  .inl (1, 32, .inr (.inl (fun _ => 0))),
  .inl (1, 14, .inr (.inl (fun _ => 0))),
  .inl (0, 8, .inl (fun _ => 0)),
  .inl (1, 8, .inr (.inl (fun _ => 0))),
  .inl (0, 8, .inl (fun _ => 0)),
  .inl (0, 8, .inl (fun _ => 0)),
  .inr (6, [.ref 13, .ref 14, .ref 15, .int 0, .int 0, .ref 16, .ref 17, .ref 18, .ref 19, .ref 20]),
  .inl (0, 32, .inl (fun _ => 0)),
  .inl (0, 32, .inl (fun _ => 0)),
  .inl (0, 32, .inl (fun _ => 0)),
  .inl (1, 12, .inr (.inl (fun _ => 0))),
  .inl (0, 12, .inl (fun _ => 0)),
  .inl (0, 12, .inl (fun _ => 0)),
  .inl (0, 12, .inl (fun _ => 0)),
  .inl (0, 12, .inl (fun _ => 0)),
  .inr (6, [.ref 22, .ref 23, .ref 24, .int 0, .int 0, .ref 25, .ref 26, .ref 27, .ref 28, .ref 29]),
  .inl (0, 32, .inl (fun _ => 0)),
  .inl (0, 32, .inl (fun _ => 0)),
  .inl (0, 32, .inl (fun _ => 0)),
  .inl (1, 12, .inr (.inl (fun _ => 0))),
  .inl (0, 12, .inl (fun _ => 0)),
  .inl (0, 12, .inl (fun _ => 0)),
  .inl (0, 12, .inl (fun _ => 0)),
  .inl (0, 12, .inl (fun _ => 0)),
  .inr (7, [.ref 31, .ref 40, .int 0]),
  .inl (5, 8, .inr (.inr (.inr (.inr (fun i => if i < 8 then some (32 + i) else none))))),
  .inl (0, 4, .inl (fun _ => 0)),
  .inl (0, 4, .inl (fun _ => 0)),
  .inl (0, 4, .inl (fun _ => 0)),
  .inl (0, 4, .inl (fun _ => 0)),
  .inl (0, 4, .inl (fun _ => 0)),
  .inl (0, 4, .inl (fun _ => 0)),
  .inl (0, 4, .inl (fun _ => 0)),
  .inl (0, 4, .inl (fun _ => 0)),
  .inl (0, 8, .inl (fun _ => 0)),
  .inl (4, 6, .inr (.inr (.inr (.inr (fun _ => none))))),
  .inr (2, [.ref 43, .int 0, .ref 44, .int 0]),
  .inl (1, 128, .inr (.inl (fun _ => 0))),
  .inl (1, 32, .inr (.inl (fun _ => 0))),
  .inr (4, [.ref 46, .int 0, .ref 47]),
  .inl (2, 64, .inl (fun _ => 0)),
  .inl (2, 10, .inl (fun _ => 0)),
  .inr (9, [.int 0, .int 0, .int 0, .int 0, .int 0, .int 0, .int 0, .int (-1), .int 0]),
  .inr (3, [.ref 42, .ref 45, .ref 48, .ref 58, .ref 59, .ref 50, .ref 51, .ref 52, .int 0, .ref 53, .ref 54, .int 0, .ref 55, .ref 56, .ref 57, .int 0, .null, .int 0, .int 0]),
  .inl (1, 8, .inr (.inl (fun _ => 0))),
  .inl (3, 8, .inl (fun _ => 0)),
  .inl (1, 32, .inr (.inl (fun _ => 0))),
  .inl (0, 10, .inl (fun _ => 0)),
  .inl (0, 10, .inl (fun _ => 0)),
  .inl (0, 8, .inl (fun _ => 0)),
  .inl (0, 8, .inl (fun _ => 0)),
  .inl (0, 8, .inl (fun _ => 0)),
  .inr (8, [.ref 42, .int 0]),
  .inr (1, [.ref 42, .ref 60]),
  .inl (0, 64, .inl (fun _ => 0)),
  .inr (13, [.ref 62, .ref 63, .ref 64, .int 0, .int 0, .int 0, .int 0, .long 0, .int 0, .int 0, .int 0, .int 0, .int 0, .int 0, .int 0, .int 0, .ref 65, .ref 66, .ref 67, .ref 68, .ref 69, .ref 70, .int 0, .ref 71, .ref 72, .ref 73, .ref 74, .ref 75, .int 0, .int 0, .ref 76, .ref 77, .ref 78, .ref 79, .ref 80, .ref 81, .ref 82, .int 0, .ref 83, .ref 84, .ref 85, .ref 86, .ref 87, .ref 88, .int 0, .int (-1), .int (-1), .ref 89, .int 0, .ref 90, .ref 91, .int 0, .ref 92, .ref 93, .ref 94, .int 0, .int 0, .int 0, .ref 95, .ref 96, .int 0, .int 0, .int 0, .int 0, .int 0, .int 0, .int 0, .int (-1), .int 0, .int 0, .int 0, .ref 97, .ref 98, .int 0, .ref 99, .ref 100, .ref 101, .ref 102, .ref 103, .int 0, .ref 104, .ref 105, .ref 106, .ref 107, .ref 108, .ref 109, .ref 110, .int 0, .int 0, .long 0]),
  .inl (1, 41, .inr (.inl (vp_updL (vp_updL (vp_updL (vp_updL (vp_updL (vp_updL (vp_updL (vp_updL (vp_updL (vp_updL (vp_updL (vp_updL (vp_updL (vp_updL (vp_updL (vp_updL (vp_updL (vp_updL (vp_updL (vp_updL (vp_updL (vp_updL (vp_updL (vp_updL (vp_updL (vp_updL (vp_updL (vp_updL (vp_updL (vp_updL (vp_updL (vp_updL (vp_updL (vp_updL (vp_updL (vp_updL (vp_updL (vp_updL (vp_updL (vp_updL (vp_updL (fun _ => 0) 0 176) 1 249) 2 107681) 3 12387497) 4 4797) 5 257) 6 13903) 7 261347000) 8 9592700) 9 15091) 10 419) 11 13550) 12 188623) 13 315749) 14 151150) 15 365869) 16 1887) 17 381245) 18 334901377) 19 223456) 20 14431) 21 9528) 22 9734) 23 376205) 24 385418) 25 4075223) 26 40187) 27 126893) 28 409469) 29 4085899) 30 208022) 31 394691) 32 92275) 33 2774) 34 321581) 35 125041) 36 11695) 37 8399691) 38 375062) 39 99233) 40 129361))),
  .inl (0, 30, .inl (upd (upd (upd (upd (upd (upd (upd (upd (upd (upd (upd (upd (upd (upd (upd (upd (upd (upd (upd (upd (upd (upd (upd (upd (upd (upd (upd (upd (upd (upd (fun _ => 0) 0 1) 1 1) 2 1) 3 2) 4 1) 5 1) 6 1) 7 1) 8 1) 9 1) 10 1) 11 1) 12 1) 13 1) 14 1) 15 1) 16 1) 17 1) 18 1) 19 2) 20 2) 21 2) 22 2) 23 2) 24 2) 25 2) 26 2) 27 2) 28 2) 29 2)),
  .inl (2, 1620, .inl (fun _ => 0)),
  .inl (1, 24, .inr (.inl (fun _ => 0))),
  .inl (0, 24, .inl (fun _ => 0)),
  .inl (0, 24, .inl (fun _ => 0)),
  .inl (0, 24, .inl (fun _ => 0)),
  .inl (0, 24, .inl (fun _ => 0)),
  .inl (1, 14, .inr (.inl (fun _ => 0))),
  .inl (0, 8000, .inl (fun _ => 0)),
  .inl (0, 8000, .inl (fun _ => 0)),
  .inl (0, 8000, .inl (fun _ => 0)),
  .inl (0, 8000, .inl (fun _ => 0)),
  .inl (0, 8000, .inl (fun _ => 0)),
  .inl (0, 800, .inl (fun _ => 0)),
  .inl (0, 800, .inl (fun _ => 0)),
  .inl (0, 800, .inl (fun _ => 0)),
  .inl (1, 800, .inr (.inl (fun _ => 0))),
  .inl (0, 12, .inl (fun _ => 0)),
  .inl (0, 12, .inl (fun _ => 0)),
  .inl (0, 12, .inl (fun _ => 0)),
  .inl (0, 80, .inl (fun _ => 0)),
  .inl (0, 80, .inl (fun _ => 0)),
  .inl (0, 80, .inl (fun _ => 0)),
  .inl (0, 80, .inl (fun _ => 0)),
  .inl (1, 80, .inr (.inl (fun _ => 0))),
  .inl (0, 80, .inl (fun _ => 0)),
  .inl (0, 166300, .inl (upd (fun _ => 0) 0 (-1))),
  .inl (0, 9000, .inl (fun _ => 0)),
  .inl (0, 9000, .inl (fun _ => 0)),
  .inl (0, 8, .inl (fun _ => 0)),
  .inl (0, 8, .inl (fun _ => 0)),
  .inl (0, 8, .inl (fun _ => 0)),
  .inl (0, 700, .inl (fun _ => 0)),
  .inl (0, 700, .inl (fun _ => 0)),
  .inl (0, 8, .inl (fun _ => 0)),
  .inl (0, 8, .inl (fun _ => 0)),
  .inl (0, 10, .inl (fun _ => 0)),
  .inl (0, 10, .inl (fun _ => 0)),
  .inl (0, 10, .inl (fun _ => 0)),
  .inl (0, 140, .inl (fun _ => 0)),
  .inl (0, 140, .inl (fun _ => 0)),
  .inl (0, 400, .inl (fun _ => 0)),
  .inl (0, 400, .inl (fun _ => 0)),
  .inl (0, 400, .inl (fun _ => 0)),
  .inl (0, 400, .inl (fun _ => 0)),
  .inl (0, 400, .inl (fun _ => 0)),
  .inl (0, 400, .inl (fun _ => 0)),
  .inl (2, 600, .inl (fun _ => 0))]
set_option maxRecDepth 100000 in
theorem zv_2_24 : (fun X : Nat → Option zz_C => zz_go zt_tf zt_fd X 40 zm_56 744 [(1, .int 28), (0, .ref 61)] [.int 2, .int 28, .ref 63] zv_m23) = (fun _ => some ((759, [(1, .int 1), (0, .ref 61)], []), zv_m24)) := by rfl
def zv_m25 : zz_H := [.inr (12, [.ref 1, .int 0, .ref 2, .ref 12, .ref 21, .int (-1), .int (-1), .ref 30, .ref 41, .int 0, .ref 42, .ref 45, .ref 48, .ref 49]),
  .inl (2, 320, .inl (fun _ => 0)),
  .inr (5, [.ref 3, .null, .int 0, .ref 7, .int 0, .ref 8, .ref 9, .ref 10, .ref 11, .int 0, .int 0, .int 0]),
  .inr (10, [.ref 4, .ref 5, .ref 6, .int 0, .int 0, .int 0, .int 0, .long 0]),
  .inl (0, 32, .inl (fun _ => 0)),
  .inl (0, 32, .inl (fun _ => 0)),
  .inl (1, 32, .inr (.inl (fun _ => 0))),
  .inl (1, 14, .inr (.inl (fun _ => 0))),
  .inl (0, 8, .inl (fun _ => 0)),
  .inl (1, 8, .inr (.inl (fun _ => 0))),
  .inl (0, 8, .inl (fun _ => 0)),
  .inl (0, 8, .inl (fun _ => 0)),
  .inr (6, [.ref 13, .ref 14, .ref 15, .int 0, .int 0, .ref 16, .ref 17, .ref 18, .ref 19, .ref 20]),
  .inl (0, 32, .inl (fun _ => 0)),
  .inl (0, 32, .inl (fun _ => 0)),
  .inl (0, 32, .inl (fun _ => 0)),
  .inl (1, 12, .inr (.inl (fun _ => 0))),
  .inl (0, 12, .inl (fun _ => 0)),
  .inl (0, 12, .inl (fun _ => 0)),
  .inl (0, 12, .inl (fun _ => 0)),
  .inl (0, 12, .inl (fun _ => 0)),
  .inr (6, [.ref 22, .ref 23, .ref 24, .int 0, .int 0, .ref 25, .ref 26, .ref 27, .ref 28, .ref 29]),
  .inl (0, 32, .inl (fun _ => 0)),
  .inl (0, 32, .inl (fun _ => 0)),
  .inl (0, 32, .inl (fun _ => 0)),
  .inl (1, 12, .inr (.inl (fun _ => 0))),
  .inl (0, 12, .inl (fun _ => 0)),
  .inl (0, 12, .inl (fun _ => 0)),
  .inl (0, 12, .inl (fun _ => 0)),
  .inl (0, 12, .inl (fun _ => 0)),
  .inr (7, [.ref 31, .ref 40, .int 0]),
  .inl (5, 8, .inr (.inr (.inr (.inr (fun i => if i < 8 then some (32 + i) else none))))),
  .inl (0, 4, .inl (fun _ => 0)),
  .inl (0, 4, .inl (fun _ => 0)),
  .inl (0, 4, .inl (fun _ => 0)),
  .inl (0, 4, .inl (fun _ => 0)),
  .inl (0, 4, .inl (fun _ => 0)),
  .inl (0, 4, .inl (fun _ => 0)),
  .inl (0, 4, .inl (fun _ => 0)),
  .inl (0, 4, .inl (fun _ => 0)),
  .inl (0, 8, .inl (fun _ => 0)),
  .inl (4, 6, .inr (.inr (.inr (.inr (fun _ => none))))),
  .inr (2, [.ref 43, .int 0, .ref 44, .int 0]),
  .inl (1, 128, .inr (.inl (fun _ => 0))),
  .inl (1, 32, .inr (.inl (fun _ => 0))),
  .inr (4, [.ref 46, .int 0, .ref 47]),
  .inl (2, 64, .inl (fun _ => 0)),
  .inl (2, 10, .inl (fun _ => 0)),
  .inr (9, [.int 0, .int 0, .int 0, .int 0, .int 0, .int 0, .int 0, .int (-1), .int 0]),
  .inr (3, [.ref 42, .ref 45, .ref 48, .ref 58, .ref 59, .ref 50, .ref 51, .ref 52, .int 0, .ref 53, .ref 54, .int 0, .ref 55, .ref 56, .ref 57, .int 0, .null, .int 0, .int 0]),
  .inl (1, 8, .inr (.inl (fun _ => 0))),
  .inl (3, 8, .inl (fun _ => 0)),
  .inl (1, 32, .inr (.inl (fun _ => 0))),
  .inl (0, 10, .inl (fun _ => 0)),
  .inl (0, 10, .inl (fun _ => 0)),
  .inl (0, 8, .inl (fun _ => 0)),
  .inl (0, 8, .inl (fun _ => 0)),
  .inl (0, 8, .inl (fun _ => 0)),
  .inr (8, [.ref 42, .int 0]),
  .inr (1, [.ref 42, .ref 60]),
  .inl (0, 64, .inl (fun _ => 0)),
  .inr (13, [.ref 62, .ref 63, .ref 64, .int 0, .int 0, .int 0, .int 0, .long 0, .int 0, .int 0, .int 0, .int 0, .int 0, .int 0, .int 0, .int 0, .ref 65, .ref 66, .ref 67, .ref 68, .ref 69, .ref 70, .int 0, .ref 71, .ref 72, .ref 73, .ref 74, .ref 75, .int 0, .int 0, .ref 76, .ref 77, .ref 78, .ref 79, .ref 80, .ref 81, .ref 82, .int 0, .ref 83, .ref 84, .ref 85, .ref 86, .ref 87, .ref 88, .int 0, .int (-1), .int (-1), .ref 89, .int 0, .ref 90, .ref 91, .int 0, .ref 92, .ref 93, .ref 94, .int 0, .int 0, .int 0, .ref 95, .ref 96, .int 0, .int 0, .int 0, .int 0, .int 0, .int 0, .int 0, .int (-1), .int 0, .int 0, .int 0, .ref 97, .ref 98, .int 0, .ref 99, .ref 100, .ref 101, .ref 102, .ref 103, .int 0, .ref 104, .ref 105, .ref 106, .ref 107, .ref 108, .ref 109, .ref 110, .int 0, .int 0, .long 0]),
  .inl (1, 41, .inr (.inl (vp_updL (vp_updL (vp_updL (vp_updL (vp_updL (vp_updL (vp_updL (vp_updL (vp_updL (vp_updL (vp_updL (vp_updL (vp_updL (vp_updL (vp_updL (vp_updL (vp_updL (vp_updL (vp_updL (vp_updL (vp_updL (vp_updL (vp_updL (vp_updL (vp_updL (vp_updL (vp_updL (vp_updL (vp_updL (vp_updL (vp_updL (vp_updL (vp_updL (vp_updL (vp_updL (vp_updL (vp_updL (vp_updL (vp_updL (vp_updL (vp_updL (fun _ => 0) 0 176) 1 249) 2 107681) 3 12387497) 4 4797) 5 257) 6 13903) 7 261347000) 8 9592700) 9 15091) 10 419) 11 13550) 12 188623) 13 315749) 14 151150) 15 365869) 16 1887) 17 381245) 18 334901377) 19 223456) 20 14431) 21 9528) 22 9734) 23 376205) 24 385418) 25 4075223) 26 40187) 27 126893) 28 409469) 29 4085899) 30 208022) 31 394691) 32 92275) 33 2774) 34 321581) 35 125041) 36 11695) 37 8399691) 38 375062) 39 99233) 40 129361))),
  .inl (0, 30, .inl (upd (upd (upd (upd (upd (upd (upd (upd (upd (upd (upd (upd (upd (upd (upd (upd (upd (upd (upd (upd (upd (upd (upd (upd (upd (upd (upd (upd (upd (upd (fun _ => 0) 0 1) 1 1) 2 1) 3 2) 4 1) 5 1) 6 1) 7 1) 8 1) 9 1) 10 1) 11 1) 12 1) 13 1) 14 1) 15 1) 16 1) 17 1) 18 1) 19 2) 20 2) 21 2) 22 2) 23 2) 24 2) 25 2) 26 2) 27 2) 28 2) 29 2)),
  .inl (2, 1620, .inl (fun _ => 0)),
  .inl (1, 24, .inr (.inl (fun _ => 0))),
  .inl (0, 24, .inl (fun _ => 0)),
  .inl (0, 24, .inl (fun _ => 0)),
  .inl (0, 24, .inl (fun _ => 0)),
  .inl (0, 24, .inl (fun _ => 0)),
  .inl (1, 14, .inr (.inl (fun _ => 0))),
  .inl (0, 8000, .inl (fun _ => 0)),
  .inl (0, 8000, .inl (fun _ => 0)),
  .inl (0, 8000, .inl (fun _ => 0)),
  .inl (0, 8000, .inl (fun _ => 0)),
  .inl (0, 8000, .inl (fun _ => 0)),
  .inl (0, 800, .inl (fun _ => 0)),
  .inl (0, 800, .inl (fun _ => 0)),
  .inl (0, 800, .inl (fun _ => 0)),
  .inl (1, 800, .inr (.inl (fun _ => 0))),
  .inl (0, 12, .inl (fun _ => 0)),
  .inl (0, 12, .inl (fun _ => 0)),
  .inl (0, 12, .inl (fun _ => 0)),
  .inl (0, 80, .inl (fun _ => 0)),
  .inl (0, 80, .inl (fun _ => 0)),
  .inl (0, 80, .inl (fun _ => 0)),
  .inl (0, 80, .inl (fun _ => 0)),
  .inl (1, 80, .inr (.inl (fun _ => 0))),
  .inl (0, 80, .inl (fun _ => 0)),
  .inl (0, 166300, .inl (upd (upd (upd (upd (fun _ => 0) 0 (-1)) 2410 (-1)) 4820 (-1)) 7230 (-1))),
  .inl (0, 9000, .inl (fun _ => 0)),
  .inl (0, 9000, .inl (fun _ => 0)),
  .inl (0, 8, .inl (fun _ => 0)),
  .inl (0, 8, .inl (fun _ => 0)),
  .inl (0, 8, .inl (fun _ => 0)),
  .inl (0, 700, .inl (fun _ => 0)),
  .inl (0, 700, .inl (fun _ => 0)),
  .inl (0, 8, .inl (fun _ => 0)),
  .inl (0, 8, .inl (fun _ => 0)),
  .inl (0, 10, .inl (fun _ => 0)),
  .inl (0, 10, .inl (fun _ => 0)),
  .inl (0, 10, .inl (fun _ => 0)),
  .inl (0, 140, .inl (fun _ => 0)),
  .inl (0, 140, .inl (fun _ => 0)),
  .inl (0, 400, .inl (fun _ => 0)),
  .inl (0, 400, .inl (fun _ => 0)),
  .inl (0, 400, .inl (fun _ => 0)),
  .inl (0, 400, .inl (fun _ => 0)),
  .inl (0, 400, .inl (fun _ => 0)),
  .inl (0, 400, .inl (fun _ => 0)),
  .inl (2, 600, .inl (fun _ => 0))]
set_option maxRecDepth 100000 in
theorem zv_2_25 : (fun X : Nat → Option zz_C => zz_go zt_tf zt_fd X 40 zm_56 759 [(1, .int 1), (0, .ref 61)] [] zv_m24) = (fun _ => some ((767, [(1, .int 4), (0, .ref 61)], [.int 4, .int 2410, .ref 89]), zv_m25)) := by rfl
def zv_m26 : zz_H := [.inr (12, [.ref 1, .int 0, .ref 2, .ref 12, .ref 21, .int (-1), .int (-1), .ref 30, .ref 41, .int 0, .ref 42, .ref 45, .ref 48, .ref 49]),
  .inl (2, 320, .inl (fun _ => 0)),
  .inr (5, [.ref 3, .null, .int 0, .ref 7, .int 0, .ref 8, .ref 9, .ref 10, .ref 11, .int 0, .int 0, .int 0]),
  .inr (10, [.ref 4, .ref 5, .ref 6, .int 0, .int 0, .int 0, .int 0, .long 0]),
  .inl (0, 32, .inl (fun _ => 0)),
  .inl (0, 32, .inl (fun _ => 0)),
  .inl (1, 32, .inr (.inl (fun _ => 0))),
  .inl (1, 14, .inr (.inl (fun _ => 0))),
  .inl (0, 8, .inl (fun _ => 0)),
  .inl (1, 8, .inr (.inl (fun _ => 0))),
  .inl (0, 8, .inl (fun _ => 0)),
  .inl (0, 8, .inl (fun _ => 0)),
  .inr (6, [.ref 13, .ref 14, .ref 15, .int 0, .int 0, .ref 16, .ref 17, .ref 18, .ref 19, .ref 20]),
  .inl (0, 32, .inl (fun _ => 0)),
  .inl (0, 32, .inl (fun _ => 0)),
  .inl (0, 32, .inl (fun _ => 0)),
  .inl (1, 12, .inr (.inl (fun _ => 0))),
  .inl (0, 12, .inl (fun _ => 0)),
  .inl (0, 12, .inl (fun _ => 0)),
  .inl (0, 12, .inl (fun _ => 0)),
  .inl (0, 12, .inl (fun _ => 0)),
  .inr (6, [.ref 22, .ref 23, .ref 24, .int 0, .int 0, .ref 25, .ref 26, .ref 27, .ref 28, .ref 29]),
  .inl (0, 32, .inl (fun _ => 0)),
  .inl (0, 32, .inl (fun _ => 0)),
  .inl (0, 32, .inl (fun _ => 0)),
  .inl (1, 12, .inr (.inl (fun _ => 0))),
  .inl (0, 12, .inl (fun _ => 0)),
  .inl (0, 12, .inl (fun _ => 0)),
  .inl (0, 12, .inl (fun _ => 0)),
  .inl (0, 12, .inl (fun _ => 0)),
  .inr (7, [.ref 31, .ref 40, .int 0]),
  .inl (5, 8, .inr (.inr (.inr (.inr (fun i => if i < 8 then some (32 + i) else none))))),
  .inl (0, 4, .inl (fun _ => 0)),
  .inl (0, 4, .inl (fun _ => 0)),
  .inl (0, 4, .inl (fun _ => 0)),
  .inl (0, 4, .inl (fun _ => 0)),
  .inl (0, 4, .inl (fun _ => 0)),
  .inl (0, 4, .inl (fun _ => 0)),
  .inl (0, 4, .inl (fun _ => 0)),
  .inl (0, 4, .inl (fun _ => 0)),
  .inl (0, 8, .inl (fun _ => 0)),
  .inl (4, 6, .inr (.inr (.inr (.inr (fun _ => none))))),
  .inr (2, [.ref 43, .int 0, .ref 44, .int 0]),
  .inl (1, 128, .inr (.inl (fun _ => 0))),
  .inl (1, 32, .inr (.inl (fun _ => 0))),
  .inr (4, [.ref 46, .int 0, .ref 47]),
  .inl (2, 64, .inl (fun _ => 0)),
  .inl (2, 10, .inl (fun _ => 0)),
  .inr (9, [.int 0, .int 0, .int 0, .int 0, .int 0, .int 0, .int 0, .int (-1), .int 0]),
  .inr (3, [.ref 42, .ref 45, .ref 48, .ref 58, .ref 59, .ref 50, .ref 51, .ref 52, .int 0, .ref 53, .ref 54, .int 0, .ref 55, .ref 56, .ref 57, .int 0, .null, .int 0, .int 0]),
  .inl (1, 8, .inr (.inl (fun _ => 0))),
  .inl (3, 8, .inl (fun _ => 0)),
  .inl (1, 32, .inr (.inl (fun _ => 0))),
  .inl (0, 10, .inl (fun _ => 0)),
  .inl (0, 10, .inl (fun _ => 0)),
  .inl (0, 8, .inl (fun _ => 0)),
  .inl (0, 8, .inl (fun _ => 0)),
  .inl (0, 8, .inl (fun _ => 0)),
  .inr (8, [.ref 42, .int 0]),
  .inr (1, [.ref 42, .ref 60]),
  .inl (0, 64, .inl (fun _ => 0)),
  .inr (13, [.ref 62, .ref 63, .ref 64, .int 0, .int 0, .int 0, .int 0, .long 0, .int 0, .int 0, .int 0, .int 0, .int 0, .int 0, .int 0, .int 0, .ref 65, .ref 66, .ref 67, .ref 68, .ref 69, .ref 70, .int 0, .ref 71, .ref 72, .ref 73, .ref 74, .ref 75, .int 0, .int 0, .ref 76, .ref 77, .ref 78, .ref 79, .ref 80, .ref 81, .ref 82, .int 0, .ref 83, .ref 84, .ref 85, .ref 86, .ref 87, .ref 88, .int 0, .int (-1), .int (-1), .ref 89, .int 0, .ref 90, .ref 91, .int 0, .ref 92, .ref 93, .ref 94, .int 0, .int 0, .int 0, .ref 95, .ref 96, .int 0, .int 0, .int 0, .int 0, .int 0, .int 0, .int 0, .int (-1), .int 0, .int 0, .int 0, .ref 97, .ref 98, .int 0, .ref 99, .ref 100, .ref 101, .ref 102, .ref 103, .int 0, .ref 104, .ref 105, .ref 106, .ref 107, .ref 108, .ref 109, .ref 110, .int 0, .int 0, .long 0]),
  .inl (1, 41, .inr (.inl (vp_updL (vp_updL (vp_updL (vp_updL (vp_updL (vp_updL (vp_updL (vp_updL (vp_updL (vp_updL (vp_updL (vp_updL (vp_updL (vp_updL (vp_updL (vp_updL (vp_updL (vp_updL (vp_updL (vp_updL (vp_updL (vp_updL (vp_updL (vp_updL (vp_updL (vp_updL (vp_updL (vp_updL (vp_updL (vp_updL (vp_updL (vp_updL (vp_updL (vp_updL (vp_updL (vp_updL (vp_updL (vp_updL (vp_updL (vp_updL (vp_updL (fun _ => 0) 0 176) 1 249) 2 107681) 3 12387497) 4 4797) 5 257) 6 13903) 7 261347000) 8 9592700) 9 15091) 10 419) 11 13550) 12 188623) 13 315749) 14 151150) 15 365869) 16 1887) 17 381245) 18 334901377) 19 223456) 20 14431) 21 9528) 22 9734) 23 376205) 24 385418) 25 4075223) 26 40187) 27 126893) 28 409469) 29 4085899) 30 208022) 31 394691) 32 92275) 33 2774) 34 321581) 35 125041) 36 11695) 37 8399691) 38 375062) 39 99233) 40 129361))),
  .inl (0, 30, .inl (upd (upd (upd (upd (upd (upd (upd (upd (upd (upd (upd (upd (upd (upd (upd (upd (upd (upd (upd (upd (upd (upd (upd (upd (upd (upd (upd (upd (upd (upd (fun _ => 0) 0 1) 1 1) 2 1) 3 2) 4 1) 5 1) 6 1) 7 1) 8 1) 9 1) 10 1) 11 1) 12 1) 13 1) 14 1) 15 1) 16 1) 17 1) 18 1) 19 2) 20 2) 21 2) 22 2) 23 2) 24 2) 25 2) 26 2) 27 2) 28 2) 29 2)),
  .inl (2, 1620, .inl (fun _ => 0)),
  .inl (1, 24, .inr (.inl (fun _ => 0))),
  .inl (0, 24, .inl (fun _ => 0)),
  .inl (0, 24, .inl (fun _ => 0)),
  .inl (0, 24, .inl (fun _ => 0)),
  .inl (0, 24, .inl (fun _ => 0)),
  .inl (1, 14, .inr (.inl (fun _ => 0))),
  .inl (0, 8000, .inl (fun _ => 0)),
  .inl (0, 8000, .inl (fun _ => 0)),
  .inl (0, 8000, .inl (fun _ => 0)),
  .inl (0, 8000, .inl (fun _ => 0)),
  .inl (0, 8000, .inl (fun _ => 0)),
  .inl (0, 800, .inl (fun _ => 0)),
  .inl (0, 800, .inl (fun _ => 0)),
  .inl (0, 800, .inl (fun _ => 0)),
  .inl (1, 800, .inr (.inl (fun _ => 0))),
  .inl (0, 12, .inl (fun _ => 0)),
  .inl (0, 12, .inl (fun _ => 0)),
  .inl (0, 12, .inl (fun _ => 0)),
  .inl (0, 80, .inl (fun _ => 0)),
  .inl (0, 80, .inl (fun _ => 0)),
  .inl (0, 80, .inl (fun _ => 0)),
  .inl (0, 80, .inl (fun _ => 0)),
  .inl (1, 80, .inr (.inl (fun _ => 0))),
  .inl (0, 80, .inl (fun _ => 0)),
  .inl (0, 166300, .inl (upd (upd (upd (upd (upd (upd (upd (upd (fun _ => 0) 0 (-1)) 2410 (-1)) 4820 (-1)) 7230 (-1)) 9640 (-1)) 12050 (-1)) 14460 (-1)) 16870 (-1))),
  .inl (0, 9000, .inl (fun _ => 0)),
  .inl (0, 9000, .inl (fun _ => 0)),
  .inl (0, 8, .inl (fun _ => 0)),
  .inl (0, 8, .inl (fun _ => 0)),
  .inl (0, 8, .inl (fun _ => 0)),
  .inl (0, 700, .inl (fun _ => 0)),
  .inl (0, 700, .inl (fun _ => 0)),
  .inl (0, 8, .inl (fun _ => 0)),
  .inl (0, 8, .inl (fun _ => 0)),
  .inl (0, 10, .inl (fun _ => 0)),
  .inl (0, 10, .inl (fun _ => 0)),
  .inl (0, 10, .inl (fun _ => 0)),
  .inl (0, 140, .inl (fun _ => 0)),
  .inl (0, 140, .inl (fun _ => 0)),
  .inl (0, 400, .inl (fun _ => 0)),
  .inl (0, 400, .inl (fun _ => 0)),
  .inl (0, 400, .inl (fun _ => 0)),
  .inl (0, 400, .inl (fun _ => 0)),
  .inl (0, 400, .inl (fun _ => 0)),
  .inl (0, 400, .inl (fun _ => 0)),
  .inl (2, 600, .inl (fun _ => 0))]
set_option maxRecDepth 100000 in
theorem zv_2_26 : (fun X : Nat → Option zz_C => zz_go zt_tf zt_fd X 40 zm_56 767 [(1, .int 4), (0, .ref 61)] [.int 4, .int 2410, .ref 89] zv_m25) = (fun _ => some ((773, [(1, .int 8), (0, .ref 61)], []), zv_m26)) := by rfl
def zv_m27 : zz_H := [.inr (12, [.ref 1, .int 0, .ref 2, .ref 12, .ref 21, .int (-1), .int (-1), .ref 30, .ref 41, .int 0, .ref 42, .ref 45, .ref 48, .ref 49]),
  .inl (2, 320, .inl (fun _ => 0)),
  .inr (5, [.ref 3, .null, .int 0, .ref 7, .int 0, .ref 8, .ref 9, .ref 10, .ref 11, .int 0, .int 0, .int 0]),
  .inr (10, [.ref 4, .ref 5, .ref 6, .int 0, .int 0, .int 0, .int 0, .long 0]),
  .inl (0, 32, .inl (fun _ => 0)),
  .inl (0, 32, .inl (fun _ => 0)),
  .inl (1, 32, .inr (.inl (fun _ => 0))),
  .inl (1, 14, .inr (.inl (fun _ => 0))),
  .inl (0, 8, .inl (fun _ => 0)),
  .inl (1, 8, .inr (.inl (fun _ => 0))),
  .inl (0, 8, .inl (fun _ => 0)),
  .inl (0, 8, .inl (fun _ => 0)),
  .inr (6, [.ref 13, .ref 14, .ref 15, .int 0, .int 0, .ref 16, .ref 17, .ref 18, .ref 19, .ref 20]),
  .inl (0, 32, .inl (fun _ => 0)),
  .inl (0, 32, .inl (fun _ => 0)),
  .inl (0, 32, .inl (fun _ => 0)),
  .inl (1, 12, .inr (.inl (fun _ => 0))),
  .inl (0, 12, .inl (fun _ => 0)),
  .inl (0, 12, .inl (fun _ => 0)),
  .inl (0, 12, .inl (fun _ => 0)),
  .inl (0, 12, .inl (fun _ => 0)),
  .inr (6, [.ref 22, .ref 23, .ref 24, .int 0, .int 0, .ref 25, .ref 26, .ref 27, .ref 28, .ref 29]),
  .inl (0, 32, .inl (fun _ => 0)),
  .inl (0, 32, .inl (fun _ => 0)),
  .inl (0, 32, .inl (fun _ => 0)),
  .inl (1, 12, .inr (.inl (fun _ => 0))),
  .inl (0, 12, .inl (fun _ => 0)),
  .inl (0, 12, .inl (fun _ => 0)),
  .inl (0, 12, .inl (fun _ => 0)),
  .inl (0, 12, .inl (fun _ => 0)),
  .inr (7, [.ref 31, .ref 40, .int 0]),
  .inl (5, 8, .inr (.inr (.inr (.inr (fun i => if i < 8 then some (32 + i) else none))))),
  .inl (0, 4, .inl (fun _ => 0)),
  .inl (0, 4, .inl (fun _ => 0)),
  .inl (0, 4, .inl (fun _ => 0)),
  .inl (0, 4, .inl (fun _ => 0)),
  .inl (0, 4, .inl (fun _ => 0)),
  .inl (0, 4, .inl (fun _ => 0)),
  .inl (0, 4, .inl (fun _ => 0)),
  .inl (0, 4, .inl (fun _ => 0)),
  .inl (0, 8, .inl (fun _ => 0)),
  .inl (4, 6, .inr (.inr (.inr (.inr (fun _ => none))))),
  .inr (2, [.ref 43, .int 0, .ref 44, .int 0]),
  .inl (1, 128, .inr (.inl (fun _ => 0))),
  .inl (1, 32, .inr (.inl (fun _ => 0))),
  .inr (4, [.ref 46, .int 0, .ref 47]),
  .inl (2, 64, .inl (fun _ => 0)),
  .inl (2, 10, .inl (fun _ => 0)),
  .inr (9, [.int 0, .int 0, .int 0, .int 0, .int 0, .int 0, .int 0, .int (-1), .int 0]),
  .inr (3, [.ref 42, .ref 45, .ref 48, .ref 58, .ref 59, .ref 50, .ref 51, .ref 52, .int 0, .ref 53, .ref 54, .int 0, .ref 55, .ref 56, .ref 57, .int 0, .null, .int 0, .int 0]),
  .inl (1, 8, .inr (.inl (fun _ => 0))),
  .inl (3, 8, .inl (fun _ => 0)),
  .inl (1, 32, .inr (.inl (fun _ => 0))),
  .inl (0, 10, .inl (fun _ => 0)),
  .inl (0, 10, .inl (fun _ => 0)),
  .inl (0, 8, .inl (fun _ => 0)),
  .inl (0, 8, .inl (fun _ => 0)),
  .inl (0, 8, .inl (fun _ => 0)),
  .inr (8, [.ref 42, .int 0]),
  .inr (1, [.ref 42, .ref 60]),
  .inl (0, 64, .inl (fun _ => 0)),
  .inr (13, [.ref 62, .ref 63, .ref 64, .int 0, .int 0, .int 0, .int 0, .long 0, .int 0, .int 0, .int 0, .int 0, .int 0, .int 0, .int 0, .int 0, .ref 65, .ref 66, .ref 67, .ref 68, .ref 69, .ref 70, .int 0, .ref 71, .ref 72, .ref 73, .ref 74, .ref 75, .int 0, .int 0, .ref 76, .ref 77, .ref 78, .ref 79, .ref 80, .ref 81, .ref 82, .int 0, .ref 83, .ref 84, .ref 85, .ref 86, .ref 87, .ref 88, .int 0, .int (-1), .int (-1), .ref 89, .int 0, .ref 90, .ref 91, .int 0, .ref 92, .ref 93, .ref 94, .int 0, .int 0, .int 0, .ref 95, .ref 96, .int 0, .int 0, .int 0, .int 0, .int 0, .int 0, .int 0, .int (-1), .int 0, .int 0, .int 0, .ref 97, .ref 98, .int 0, .ref 99, .ref 100, .ref 101, .ref 102, .ref 103, .int 0, .ref 104, .ref 105, .ref 106, .ref 107, .ref 108, .ref 109, .ref 110, .int 0, .int 0, .long 0]),
  .inl (1, 41, .inr (.inl (vp_updL (vp_updL (vp_updL (vp_updL (vp_updL (vp_updL (vp_updL (vp_updL (vp_updL (vp_updL (vp_updL (vp_updL (vp_updL (vp_updL (vp_updL (vp_updL (vp_updL (vp_updL (vp_updL (vp_updL (vp_updL (vp_updL (vp_updL (vp_updL (vp_updL (vp_updL (vp_updL (vp_updL (vp_updL (vp_updL (vp_updL (vp_updL (vp_updL (vp_updL (vp_updL (vp_updL (vp_updL (vp_updL (vp_updL (vp_updL (vp_updL (fun _ => 0) 0 176) 1 249) 2 107681) 3 12387497) 4 4797) 5 257) 6 13903) 7 261347000) 8 9592700) 9 15091) 10 419) 11 13550) 12 188623) 13 315749) 14 151150) 15 365869) 16 1887) 17 381245) 18 334901377) 19 223456) 20 14431) 21 9528) 22 9734) 23 376205) 24 385418) 25 4075223) 26 40187) 27 126893) 28 409469) 29 4085899) 30 208022) 31 394691) 32 92275) 33 2774) 34 321581) 35 125041) 36 11695) 37 8399691) 38 375062) 39 99233) 40 129361))),
  .inl (0, 30, .inl (upd (upd (upd (upd (upd (upd (upd (upd (upd (upd (upd (upd (upd (upd (upd (upd (upd (upd (upd (upd (upd (upd (upd (upd (upd (upd (upd (upd (upd (upd (fun _ => 0) 0 1) 1 1) 2 1) 3 2) 4 1) 5 1) 6 1) 7 1) 8 1) 9 1) 10 1) 11 1) 12 1) 13 1) 14 1) 15 1) 16 1) 17 1) 18 1) 19 2) 20 2) 21 2) 22 2) 23 2) 24 2) 25 2) 26 2) 27 2) 28 2) 29 2)),
  .inl (2, 1620, .inl (fun _ => 0)),
  .inl (1, 24, .inr (.inl (fun _ => 0))),
  .inl (0, 24, .inl (fun _ => 0)),
  .inl (0, 24, .inl (fun _ => 0)),
  .inl (0, 24, .inl (fun _ => 0)),
  .inl (0, 24, .inl (fun _ => 0)),
  .inl (1, 14, .inr (.inl (fun _ => 0))),
  .inl (0, 8000, .inl (fun _ => 0)),
  .inl (0, 8000, .inl (fun _ => 0)),
  .inl (0, 8000, .inl (fun _ => 0)),
  .inl (0, 8000, .inl (fun _ => 0)),
  .inl (0, 8000, .inl (fun _ => 0)),
  .inl (0, 800, .inl (fun _ => 0)),
  .inl (0, 800, .inl (fun _ => 0)),
  .inl (0, 800, .inl (fun _ => 0)),
  .inl (1, 800, .inr (.inl (fun _ => 0))),
  .inl (0, 12, .inl (fun _ => 0)),
  .inl (0, 12, .inl (fun _ => 0)),
  .inl (0, 12, .inl (fun _ => 0)),
  .inl (0, 80, .inl (fun _ => 0)),
  .inl (0, 80, .inl (fun _ => 0)),
  .inl (0, 80, .inl (fun _ => 0)),
  .inl (0, 80, .inl (fun _ => 0)),
  .inl (1, 80, .inr (.inl (fun _ => 0))),
  .inl (0, 80, .inl (fun _ => 0)),
  .inl (0, 166300, .inl (upd (upd (upd (upd (upd (upd (upd (upd (fun _ => 0) 0 (-1)) 2410 (-1)) 4820 (-1)) 7230 (-1)) 9640 (-1)) 12050 (-1)) 14460 (-1)) 16870 (-1))),
  .inl (0, 9000, .inl (fun _ => 0)),
  .inl (0, 9000, .inl (fun _ => 0)),
  .inl (0, 8, .inl (fun _ => 0)),
  .inl (0, 8, .inl (fun _ => 0)),
  .inl (0, 8, .inl (fun _ => 0)),
  .inl (0, 700, .inl (fun _ => 0)),
  .inl (0, 700, .inl (fun _ => 0)),
  .inl (0, 8, .inl (fun _ => 0)),
  .inl (0, 8, .inl (fun _ => 0)),
  .inl (0, 10, .inl (fun _ => 0)),
  .inl (0, 10, .inl (fun _ => 0)),
  .inl (0, 10, .inl (fun _ => 0)),
  .inl (0, 140, .inl (fun _ => 0)),
  .inl (0, 140, .inl (fun _ => 0)),
  .inl (0, 400, .inl (fun _ => 0)),
  .inl (0, 400, .inl (fun _ => 0)),
  .inl (0, 400, .inl (fun _ => 0)),
  .inl (0, 400, .inl (fun _ => 0)),
  .inl (0, 400, .inl (fun _ => 0)),
  .inl (0, 400, .inl (fun _ => 0)),
  .inl (2, 600, .inl (fun _ => 0))]
set_option maxRecDepth 100000 in
theorem zv_2_27 : (fun X : Nat → Option zz_C => zz_go zt_tf zt_fd X 4 zm_56 773 [(1, .int 8), (0, .ref 61)] [] zv_m26) = (fun _ => some ((776, [(1, .int 8), (0, .ref 61)], []), zv_m27)) := by rfl
set_option maxRecDepth 100000 in
set_option maxHeartbeats 4000000 in
theorem zv_2 {X : Nat → Option zz_C} {Q : Option Value → zz_H → Prop} (k : Q none zv_m27) : zz_E zp_P zt_tf zt_fd X 999 zm_56 0 [(0, .ref 61)] [] zv_m0 Q := by
  refine zz_E.go 1 (congrFun zv_2_1 X) ?_
  refine zz_E.spec (d := 998) rfl rfl (by decide) rfl rfl ?_
  refine zz_E.go 40 (congrFun zv_2_3 X) ?_
  refine zz_E.go 40 (congrFun zv_2_4 X) ?_
  refine zz_E.go 40 (congrFun zv_2_5 X) ?_
  refine zz_E.go 40 (congrFun zv_2_6 X) ?_
  refine zz_E.go 40 (congrFun zv_2_7 X) ?_
  refine zz_E.go 40 (congrFun zv_2_8 X) ?_
  refine zz_E.go 40 (congrFun zv_2_9 X) ?_
  refine zz_E.go 40 (congrFun zv_2_10 X) ?_
  refine zz_E.go 40 (congrFun zv_2_11 X) ?_
  refine zz_E.go 40 (congrFun zv_2_12 X) ?_
  refine zz_E.go 40 (congrFun zv_2_13 X) ?_
  refine zz_E.go 40 (congrFun zv_2_14 X) ?_
  refine zz_E.go 40 (congrFun zv_2_15 X) ?_
  refine zz_E.go 40 (congrFun zv_2_16 X) ?_
  refine zz_E.go 40 (congrFun zv_2_17 X) ?_
  refine zz_E.go 40 (congrFun zv_2_18 X) ?_
  refine zz_E.go 40 (congrFun zv_2_19 X) ?_
  refine zz_E.go 40 (congrFun zv_2_20 X) ?_
  refine zz_E.go 40 (congrFun zv_2_21 X) ?_
  refine zz_E.go 40 (congrFun zv_2_22 X) ?_
  refine zz_E.go 40 (congrFun zv_2_23 X) ?_
  refine zz_E.go 40 (congrFun zv_2_24 X) ?_
  refine zz_E.go 40 (congrFun zv_2_25 X) ?_
  refine zz_E.go 40 (congrFun zv_2_26 X) ?_
  refine zz_E.go 4 (congrFun zv_2_27 X) ?_
  refine zz_E.ret rfl rfl rfl ?_
  exact k
abbrev zv_h : zz_H := zv_m27
set_option maxRecDepth 100000 in
set_option maxHeartbeats 4000000 in
theorem zv_law {X : Nat → Option zz_C} {Q : Option Value → zz_H → Prop} (k : zz_E zp_P zt_tf zt_fd X 1000 zm_law 18 zv_L [] zv_h Q) : zz_E zp_P zt_tf zt_fd X 1000 zm_law 0 [(0, .ref zz_out)] [] [] Q := by
  refine zz_E.i rfl rfl rfl ?_
  refine zz_E.i rfl rfl rfl ?_
  refine zz_E.call (d := 999) (M' := zm_0) rfl rfl (by decide) rfl rfl ⟨rfl, by decide⟩ ?_
  refine ⟨400, none, zv_x, congrFun zv_1 X, ?_⟩
  refine zz_E.i rfl rfl rfl ?_
  refine zz_E.i rfl rfl rfl ?_
  refine zz_E.i rfl rfl rfl ?_
  refine zz_E.call (d := 999) (M' := zm_56) rfl rfl (by decide) rfl rfl ⟨rfl, by decide⟩ ?_
  refine zv_2 ?_
  refine zz_E.i rfl rfl rfl ?_
  refine zz_E.i rfl rfl rfl ?_
  refine zz_E.i rfl rfl rfl ?_
  exact k
end
-- ### 43.init.lean.txt
section
/-! ===== both states at the start ===== -/
def s0 : mS := (fun q => if q = 45 then (-1) else if q = 46 then (-1) else if q = 67 then (-1) else 0, fun _ => 0, fun q => if q = 1 then (upd (upd (upd (upd (upd (upd (upd (upd (upd (upd (upd (upd (upd (upd (upd (upd (upd (upd (upd (upd (upd (upd (upd (upd (upd (upd (upd (upd (upd (upd (fun _ => 0) 0 1) 1 1) 2 1) 3 2) 4 1) 5 1) 6 1) 7 1) 8 1) 9 1) 10 1) 11 1) 12 1) 13 1) 14 1) 15 1) 16 1) 17 1) 18 1) 19 2) 20 2) 21 2) 22 2) 23 2) 24 2) 25 2) 26 2) 27 2) 28 2) 29 2) else if q = 47 then (upd (upd (upd (upd (upd (upd (upd (upd (fun _ => 0) 0 (-1)) 2410 (-1)) 4820 (-1)) 7230 (-1)) 9640 (-1)) 12050 (-1)) 14460 (-1)) 16870 (-1)) else fun _ => 0, fun q => if q = 0 then (vp_updL (vp_updL (vp_updL (vp_updL (vp_updL (vp_updL (vp_updL (vp_updL (vp_updL (vp_updL (vp_updL (vp_updL (vp_updL (vp_updL (vp_updL (vp_updL (vp_updL (vp_updL (vp_updL (vp_updL (vp_updL (vp_updL (vp_updL (vp_updL (vp_updL (vp_updL (vp_updL (vp_updL (vp_updL (vp_updL (vp_updL (vp_updL (vp_updL (vp_updL (vp_updL (vp_updL (vp_updL (vp_updL (vp_updL (vp_updL (vp_updL (fun _ => 0) 0 176) 1 249) 2 107681) 3 12387497) 4 4797) 5 257) 6 13903) 7 261347000) 8 9592700) 9 15091) 10 419) 11 13550) 12 188623) 13 315749) 14 151150) 15 365869) 16 1887) 17 381245) 18 334901377) 19 223456) 20 14431) 21 9528) 22 9734) 23 376205) 24 385418) 25 4075223) 26 40187) 27 126893) 28 409469) 29 4085899) 30 208022) 31 394691) 32 92275) 33 2774) 34 321581) 35 125041) 36 11695) 37 8399691) 38 375062) 39 99233) 40 129361) else fun _ => 0)
def t0 : cS := (fun k f => if k = 0 ∧ f = 5 then (-1) else if k = 0 ∧ f = 6 then (-1) else if k = 48 ∧ f = 7 then (-1) else 0, fun _ _ => 0, fun k f => if k = 0 then (if f = 3 then some 12 else if f = 4 then some 21 else if f = 7 then some 30 else none) else none, fun k => (if k = 1 then 320 else if k = 4 then 32 else if k = 5 then 32 else if k = 8 then 8 else if k = 10 then 8 else if k = 11 then 8 else if k = 13 then 32 else if k = 14 then 32 else if k = 15 then 32 else if k = 17 then 12 else if k = 18 then 12 else if k = 19 then 12 else if k = 20 then 12 else if k = 22 then 32 else if k = 23 then 32 else if k = 24 then 32 else if k = 26 then 12 else if k = 27 then 12 else if k = 28 then 12 else if k = 29 then 12 else if k = 46 then 64 else if k = 47 then 10 else if k = 51 then 8 else if k = 53 then 10 else if k = 54 then 10 else if k = 55 then 8 else if k = 56 then 8 else if k = 57 then 8 else if k = 60 then 64 else if k = 2000610 then 8 else 4, fun _ => 0), fun k => (if k = 6 then 32 else if k = 7 then 14 else if k = 9 then 8 else if k = 16 then 12 else if k = 25 then 12 else if k = 43 then 128 else if k = 44 then 32 else if k = 50 then 8 else if k = 52 then 32 else 0, fun _ => 0), fun _ => none, fun k => if 2000600 ≤ k ∧ k < 2000620 then 30 + (k - 2000600) else k, 0, fun k => decide (k = 30), 111, zz_sl zt_nf zv_h)
def w0 (x : Nat) : Nat := if x = 30 then 122 else if 31 ≤ x ∧ x ≤ 40 then 4 * (2000600 + (x - 30)) + 1 else if 61 ≤ x then 4 * (x - 61) + 3 else if x = 0 ∨ x = 2 ∨ x = 3 ∨ x = 12 ∨ x = 21 ∨ x = 42 ∨ x = 45 ∨ x = 48 ∨ x = 49 ∨ x = 58 ∨ x = 59 then 4 * x else 4 * x + 1
set_option maxRecDepth 100000 in
theorem k0_m : zv_h = zv_h.take 61 ++ mC s0 := by rfl
set_option maxRecDepth 100000 in
theorem k0_l : (zv_h.take 61).length = 61 := by rfl
set_option maxRecDepth 100000 in
theorem k0_n : zv_h.length = 111 := by rfl
set_option maxRecDepth 100000 in
theorem k0_o : ∀ k c, kVo t0 k = some c → zv_h[k]? = some c ∧ w0 k = 4 * k := by
  intro k c hk
  unfold kVo at hk
  split at hk <;> first | (cases hk; exact ⟨rfl, rfl⟩) | (cases hk; done)
set_option maxRecDepth 100000 in
theorem k0_a : ∀ k c, kVa0 t0 k = some c → zv_h[kD t0 k]? = some c ∧ w0 (kD t0 k) = 4 * k + 1 := by
  intro k c hk
  unfold kVa0 at hk
  split at hk <;> first | (cases hk; exact ⟨rfl, rfl⟩) | (cases hk; done)
set_option maxRecDepth 100000 in
theorem k0_r : ∀ j, j < 8 → zv_h[32 + j]? = some (.inl (0, 4, .inl fun _ => 0)) := by
  intro j hj
  have : j = 0 ∨ j = 1 ∨ j = 2 ∨ j = 3 ∨ j = 4 ∨ j = 5 ∨ j = 6 ∨ j = 7 := by omega
  rcases this with rfl | rfl | rfl | rfl | rfl | rfl | rfl | rfl <;> rfl
set_option maxRecDepth 100000 in
theorem k0_40 : zv_h[40]? = some (.inl (0, 8, .inl fun _ => 0)) := by rfl
set_option maxRecDepth 100000 in
theorem k0_31 : zv_h[31]? = some (.inl (5, 8, .inr (.inr (.inr (.inr (fun i => if i < 8 then some (32 + i) else none)))))) := by rfl
set_option maxRecDepth 100000 in
theorem k0_30 : zv_h[30]? = some (.inr (7, [.ref 31, .ref 40, .int 0])) := by rfl
theorem k0_D {j : Nat} (hj : j < 20) : kD t0 (2000600 + j) = 30 + j := (if_pos (by omega)).trans (by omega)
theorem k0_A {j : Nat} (h1 : 2 ≤ j) (h2 : j ≤ 10) : kA t0 (2000600 + j) = (if j = 10 then 8 else 4, fun _ => 0) := by
  show ((_ : Nat), _) = _
  congr 1
  rw [if_neg (by omega)]
  rw [if_neg (by omega)]
  rw [if_neg (by omega)]
  rw [if_neg (by omega)]
  rw [if_neg (by omega)]
  rw [if_neg (by omega)]
  rw [if_neg (by omega)]
  rw [if_neg (by omega)]
  rw [if_neg (by omega)]
  rw [if_neg (by omega)]
  rw [if_neg (by omega)]
  rw [if_neg (by omega)]
  rw [if_neg (by omega)]
  rw [if_neg (by omega)]
  rw [if_neg (by omega)]
  rw [if_neg (by omega)]
  rw [if_neg (by omega)]
  rw [if_neg (by omega)]
  rw [if_neg (by omega)]
  rw [if_neg (by omega)]
  rw [if_neg (by omega)]
  rw [if_neg (by omega)]
  rw [if_neg (by omega)]
  rw [if_neg (by omega)]
  rw [if_neg (by omega)]
  rw [if_neg (by omega)]
  rw [if_neg (by omega)]
  rw [if_neg (by omega)]
  rw [if_neg (by omega)]
  by_cases h : j = 10
  · rw [if_pos (by omega), if_pos h]
  · rw [if_neg (by omega), if_neg h]
theorem k0_Q : zz_sl zt_nf zv_h = kQ t0 := rfl
theorem k0_N : kN t0 = 111 := rfl
theorem k0_z : kN t0 < zz_out := by
  rw [k0_N]
  unfold zz_out
  omega
theorem k0_s1 : kVs t0 30 = .inr (7, [.ref 31, .ref 40, .int 0]) := by
  unfold kVs
  have e1 : kD t0 (2000000 + 20 * 30 + 1) = 31 := k0_D (j := 1) (by decide)
  have e2 : kD t0 (2000000 + 20 * 30 + 10) = 40 := k0_D (j := 10) (by decide)
  have e3 : kI t0 (3000000 + 30) 2 = 0 := rfl
  rw [e1, e2, e3]
theorem k0_w {j : Nat} (q1 : 0 < j) (q2 : j ≤ 10) : w0 (30 + j) = 4 * (2000600 + j) + 1 := by
  unfold w0
  rw [if_neg (by omega), if_pos (by omega)]
  omega
theorem k0_H {x : Nat} (h : ¬ x = 30) : kH t0 x = false := decide_eq_false h
theorem k0_H1 : kH t0 30 = true := rfl
theorem k0_va : ∀ k c, kVa t0 k = some c → zv_h[kD t0 k]? = some c ∧ w0 (kD t0 k) = 4 * k + 1 := by
  intro k c hk
  · unfold kVa at hk
    by_cases h1 : k < 2000000
    · rw [if_pos h1] at hk
      exact k0_a k c hk
    · rw [if_neg h1] at hk
      by_cases h2 : (k - 2000000) / 20 = 30
      · rw [h2, k0_H1, if_pos rfl] at hk
        obtain ⟨j, hj, rfl⟩ : ∃ j, j < 20 ∧ k = 2000600 + j := ⟨k - 2000600, by omega, by omega⟩
        have hj1 : (2000600 + j - 2000000) % 20 = j := by omega
        rw [hj1] at hk
        rw [k0_D hj]
        unfold kVaS at hk
        split at hk
        · rename_i hj2
          subst hj2
          cases hk
          refine ⟨?_, k0_w (by decide) (by decide)⟩
          have : (fun i => if i < 8 then some (kD t0 (2000600 + 1 + 1 + i)) else none) = (fun i => if i < 8 then some (32 + i) else none) := by
            funext i
            by_cases hi : i < 8
            · rw [show 2000600 + 1 + 1 + i = 2000600 + (2 + i) from by omega, k0_D (by omega), show 30 + (2 + i) = 32 + i from by omega]
            · rw [if_neg hi, if_neg hi]
          rw [this]
          exact k0_31
        · split at hk
          · cases hk
          · rename_i q1 q2
            unfold kint at hk
            rw [k0_A (by omega) (by omega)] at hk
            cases hk
            refine ⟨?_, k0_w (by omega) (by omega)⟩
            by_cases h10 : j = 10
            · subst h10
              exact k0_40
            · rw [if_neg h10, show 30 + j = 32 + (j - 2) from by omega]
              exact k0_r (j - 2) (by omega)
      · generalize (k - 2000000) / 20 = x at h2 hk
        rw [k0_H h2, if_neg (by decide)] at hk
        cases hk
theorem k0_vs : ∀ k, kH t0 k = true → zv_h[k]? = some (kVs t0 k) ∧ w0 k = 4 * k + 2 := by
  intro k hk
  have hk : decide (k = 30) = true := hk
  rw [decide_eq_true_eq] at hk
  subst hk
  exact ⟨by rw [k0_30, k0_s1], rfl⟩
theorem k0_ref : ∀ j, j < 50 → zv_h[61 + j]? = (mC s0)[j]? ∧ w0 (61 + j) = 4 * j + 3 := by
  intro j hj
  refine ⟨?_, ?_⟩
  · have e := k0_m
    have hl := k0_l
    generalize zv_h.take 61 = l at e hl
    rw [e, List.getElem?_append_right (by omega), hl]
    congr 1
    omega
  · unfold w0
    rw [if_neg (by omega), if_neg (by omega), if_pos (by omega)]
    omega
theorem kR_0 : kR zv_h t0 s0 := ⟨w0, k0_o, k0_va, k0_vs, k0_ref, k0_n, k0_Q, k0_z⟩
end
-- ### 44.ksimp.lean.txt
section
/-! ===== accessors behind changes (printed by program: gen44.py) ===== -/
section K4
variable (t : cS)
theorem kI_jI (k f : Nat) (x : Int32) (a b : Nat) : kI (jI t k f x) a b = (if a = k ∧ b = f then x else kI t a b) := rfl
theorem kL_jI (k f : Nat) (x : Int32) : kL (jI t k f x) = kL t := rfl
theorem kP_jI (k f : Nat) (x : Int32) : kP (jI t k f x) = kP t := rfl
theorem kA_jI (k f : Nat) (x : Int32) : kA (jI t k f x) = kA t := rfl
theorem kB_jI (k f : Nat) (x : Int32) : kB (jI t k f x) = kB t := rfl
theorem kM_jI (k f : Nat) (x : Int32) : kM (jI t k f x) = kM t := rfl
theorem kD_jI (k f : Nat) (x : Int32) : kD (jI t k f x) = kD t := rfl
theorem kZ_jI (k f : Nat) (x : Int32) : kZ (jI t k f x) = kZ t := rfl
theorem kH_jI (k f : Nat) (x : Int32) : kH (jI t k f x) = kH t := rfl
theorem kN_jI (k f : Nat) (x : Int32) : kN (jI t k f x) = kN t := rfl
theorem kQ_jI (k f : Nat) (x : Int32) : kQ (jI t k f x) = kQ t := rfl
theorem kI_jL (k f : Nat) (x : Int64) : kI (jL t k f x) = kI t := rfl
theorem kL_jL (k f : Nat) (x : Int64) (a b : Nat) : kL (jL t k f x) a b = (if a = k ∧ b = f then x else kL t a b) := rfl
theorem kP_jL (k f : Nat) (x : Int64) : kP (jL t k f x) = kP t := rfl
theorem kA_jL (k f : Nat) (x : Int64) : kA (jL t k f x) = kA t := rfl
theorem kB_jL (k f : Nat) (x : Int64) : kB (jL t k f x) = kB t := rfl
theorem kM_jL (k f : Nat) (x : Int64) : kM (jL t k f x) = kM t := rfl
theorem kD_jL (k f : Nat) (x : Int64) : kD (jL t k f x) = kD t := rfl
theorem kZ_jL (k f : Nat) (x : Int64) : kZ (jL t k f x) = kZ t := rfl
theorem kH_jL (k f : Nat) (x : Int64) : kH (jL t k f x) = kH t := rfl
theorem kN_jL (k f : Nat) (x : Int64) : kN (jL t k f x) = kN t := rfl
theorem kQ_jL (k f : Nat) (x : Int64) : kQ (jL t k f x) = kQ t := rfl
theorem kI_jP (k f : Nat) (x : Option Nat) : kI (jP t k f x) = kI t := rfl
theorem kL_jP (k f : Nat) (x : Option Nat) : kL (jP t k f x) = kL t := rfl
theorem kP_jP (k f : Nat) (x : Option Nat) (a b : Nat) : kP (jP t k f x) a b = (if a = k ∧ b = f then x else kP t a b) := rfl
theorem kA_jP (k f : Nat) (x : Option Nat) : kA (jP t k f x) = kA t := rfl
theorem kB_jP (k f : Nat) (x : Option Nat) : kB (jP t k f x) = kB t := rfl
theorem kM_jP (k f : Nat) (x : Option Nat) : kM (jP t k f x) = kM t := rfl
theorem kD_jP (k f : Nat) (x : Option Nat) : kD (jP t k f x) = kD t := rfl
theorem kZ_jP (k f : Nat) (x : Option Nat) : kZ (jP t k f x) = kZ t := rfl
theorem kH_jP (k f : Nat) (x : Option Nat) : kH (jP t k f x) = kH t := rfl
theorem kN_jP (k f : Nat) (x : Option Nat) : kN (jP t k f x) = kN t := rfl
theorem kQ_jP (k f : Nat) (x : Option Nat) : kQ (jP t k f x) = kQ t := rfl
theorem kI_jA (k : Nat) (g : Nat → Int32) : kI (jA t k g) = kI t := rfl
theorem kL_jA (k : Nat) (g : Nat → Int32) : kL (jA t k g) = kL t := rfl
theorem kP_jA (k : Nat) (g : Nat → Int32) : kP (jA t k g) = kP t := rfl
theorem kA_jA (k : Nat) (g : Nat → Int32) (a : Nat) : kA (jA t k g) a = (if a = k then ((kA t k).1, g) else kA t a) := rfl
theorem kB_jA (k : Nat) (g : Nat → Int32) : kB (jA t k g) = kB t := rfl
theorem kM_jA (k : Nat) (g : Nat → Int32) : kM (jA t k g) = kM t := rfl
theorem kD_jA (k : Nat) (g : Nat → Int32) : kD (jA t k g) = kD t := rfl
theorem kZ_jA (k : Nat) (g : Nat → Int32) : kZ (jA t k g) = kZ t := rfl
theorem kH_jA (k : Nat) (g : Nat → Int32) : kH (jA t k g) = kH t := rfl
theorem kN_jA (k : Nat) (g : Nat → Int32) : kN (jA t k g) = kN t := rfl
theorem kQ_jA (k : Nat) (g : Nat → Int32) : kQ (jA t k g) = kQ t := rfl
theorem kI_jB (k : Nat) (g : Nat → Int64) : kI (jB t k g) = kI t := rfl
theorem kL_jB (k : Nat) (g : Nat → Int64) : kL (jB t k g) = kL t := rfl
theorem kP_jB (k : Nat) (g : Nat → Int64) : kP (jB t k g) = kP t := rfl
theorem kA_jB (k : Nat) (g : Nat → Int64) : kA (jB t k g) = kA t := rfl
theorem kB_jB (k : Nat) (g : Nat → Int64) (a : Nat) : kB (jB t k g) a = (if a = k then ((kB t k).1, g) else kB t a) := rfl
theorem kM_jB (k : Nat) (g : Nat → Int64) : kM (jB t k g) = kM t := rfl
theorem kD_jB (k : Nat) (g : Nat → Int64) : kD (jB t k g) = kD t := rfl
theorem kZ_jB (k : Nat) (g : Nat → Int64) : kZ (jB t k g) = kZ t := rfl
theorem kH_jB (k : Nat) (g : Nat → Int64) : kH (jB t k g) = kH t := rfl
theorem kN_jB (k : Nat) (g : Nat → Int64) : kN (jB t k g) = kN t := rfl
theorem kQ_jB (k : Nat) (g : Nat → Int64) : kQ (jB t k g) = kQ t := rfl
theorem kI_jM (g : Nat → Option Nat) : kI (jM t g) = kI t := rfl
theorem kL_jM (g : Nat → Option Nat) : kL (jM t g) = kL t := rfl
theorem kP_jM (g : Nat → Option Nat) : kP (jM t g) = kP t := rfl
theorem kA_jM (g : Nat → Option Nat) : kA (jM t g) = kA t := rfl
theorem kB_jM (g : Nat → Option Nat) : kB (jM t g) = kB t := rfl
theorem kM_jM (g : Nat → Option Nat)  : kM (jM t g)  = (g) := rfl
theorem kD_jM (g : Nat → Option Nat) : kD (jM t g) = kD t := rfl
theorem kZ_jM (g : Nat → Option Nat) : kZ (jM t g) = kZ t := rfl
theorem kH_jM (g : Nat → Option Nat) : kH (jM t g) = kH t := rfl
theorem kN_jM (g : Nat → Option Nat) : kN (jM t g) = kN t := rfl
theorem kQ_jM (g : Nat → Option Nat) : kQ (jM t g) = kQ t := rfl
theorem kI_jNI (z n : Nat) (g : Nat → Int32) : kI (jNI t z n g) = kI t := rfl
theorem kL_jNI (z n : Nat) (g : Nat → Int32) : kL (jNI t z n g) = kL t := rfl
theorem kP_jNI (z n : Nat) (g : Nat → Int32) : kP (jNI t z n g) = kP t := rfl
theorem kA_jNI (z n : Nat) (g : Nat → Int32) (a : Nat) : kA (jNI t z n g) a = (if a = 111 then (n, g) else kA t a) := rfl
theorem kB_jNI (z n : Nat) (g : Nat → Int32) : kB (jNI t z n g) = kB t := rfl
theorem kM_jNI (z n : Nat) (g : Nat → Int32) : kM (jNI t z n g) = kM t := rfl
theorem kD_jNI (z n : Nat) (g : Nat → Int32) (a : Nat) : kD (jNI t z n g) a = (if a = 111 then kN t else kD t a) := rfl
theorem kZ_jNI (z n : Nat) (g : Nat → Int32)  : kZ (jNI t z n g)  = (z) := rfl
theorem kH_jNI (z n : Nat) (g : Nat → Int32) : kH (jNI t z n g) = kH t := rfl
theorem kN_jNI (z n : Nat) (g : Nat → Int32)  : kN (jNI t z n g)  = (kN t + 1) := rfl
theorem kQ_jNI (z n : Nat) (g : Nat → Int32)  : kQ (jNI t z n g)  = (kQ t + n) := rfl
theorem kI_jNL (n : Nat) (g : Nat → Int64) : kI (jNL t n g) = kI t := rfl
theorem kL_jNL (n : Nat) (g : Nat → Int64) : kL (jNL t n g) = kL t := rfl
theorem kP_jNL (n : Nat) (g : Nat → Int64) : kP (jNL t n g) = kP t := rfl
theorem kA_jNL (n : Nat) (g : Nat → Int64) : kA (jNL t n g) = kA t := rfl
theorem kB_jNL (n : Nat) (g : Nat → Int64) (a : Nat) : kB (jNL t n g) a = (if a = 111 then (n, g) else kB t a) := rfl
theorem kM_jNL (n : Nat) (g : Nat → Int64) : kM (jNL t n g) = kM t := rfl
theorem kD_jNL (n : Nat) (g : Nat → Int64) (a : Nat) : kD (jNL t n g) a = (if a = 111 then kN t else kD t a) := rfl
theorem kZ_jNL (n : Nat) (g : Nat → Int64)  : kZ (jNL t n g)  = (2) := rfl
theorem kH_jNL (n : Nat) (g : Nat → Int64) : kH (jNL t n g) = kH t := rfl
theorem kN_jNL (n : Nat) (g : Nat → Int64)  : kN (jNL t n g)  = (kN t + 1) := rfl
theorem kQ_jNL (n : Nat) (g : Nat → Int64)  : kQ (jNL t n g)  = (kQ t + n) := rfl
theorem kI_jMv (k : Nat) : kI (jMv t k) = kI t := rfl
theorem kL_jMv (k : Nat) : kL (jMv t k) = kL t := rfl
theorem kP_jMv (k : Nat) : kP (jMv t k) = kP t := rfl
theorem kA_jMv (k : Nat) (a : Nat) : kA (jMv t k) a = (if a = k then kA t 111 else kA t a) := rfl
theorem kB_jMv (k : Nat) (a : Nat) : kB (jMv t k) a = (if a = k then kB t 111 else kB t a) := rfl
theorem kM_jMv (k : Nat) : kM (jMv t k) = kM t := rfl
theorem kD_jMv (k : Nat) (a : Nat) : kD (jMv t k) a = (if a = k then kD t 111 else kD t a) := rfl
theorem kZ_jMv (k : Nat)  : kZ (jMv t k)  = (0) := rfl
theorem kH_jMv (k : Nat) : kH (jMv t k) = kH t := rfl
theorem kN_jMv (k : Nat) : kN (jMv t k) = kN t := rfl
theorem kQ_jMv (k : Nat) : kQ (jMv t k) = kQ t := rfl
theorem kI_jX (n : Nat) : kI (jX t n) = kI t := rfl
theorem kL_jX (n : Nat) : kL (jX t n) = kL t := rfl
theorem kP_jX (n : Nat) : kP (jX t n) = kP t := rfl
theorem kA_jX (n : Nat) : kA (jX t n) = kA t := rfl
theorem kB_jX (n : Nat) : kB (jX t n) = kB t := rfl
theorem kM_jX (n : Nat) : kM (jX t n) = kM t := rfl
theorem kD_jX (n : Nat) : kD (jX t n) = kD t := rfl
theorem kZ_jX (n : Nat) : kZ (jX t n) = kZ t := rfl
theorem kH_jX (n : Nat) : kH (jX t n) = kH t := rfl
theorem kN_jX (n : Nat)  : kN (jX t n)  = (kN t + 1) := rfl
theorem kQ_jX (n : Nat)  : kQ (jX t n)  = (kQ t + n) := rfl
end K4
/-! the same of the reference -/
section M4
variable (s : mS)
theorem m0_mI (k : Nat) (x : Int32) (q : Nat) : (mI s k x).1 q = (if q = k then x else s.1 q) := rfl
theorem m1_mI (k : Nat) (x : Int32) : (mI s k x).2.1 = s.2.1 := rfl
theorem m2_mI (k : Nat) (x : Int32) : (mI s k x).2.2.1 = s.2.2.1 := rfl
theorem m3_mI (k : Nat) (x : Int32) : (mI s k x).2.2.2 = s.2.2.2 := rfl
theorem m0_mL (k : Nat) (x : Int64) : (mL s k x).1 = s.1 := rfl
theorem m1_mL (k : Nat) (x : Int64) (q : Nat) : (mL s k x).2.1 q = (if q = k then x else s.2.1 q) := rfl
theorem m2_mL (k : Nat) (x : Int64) : (mL s k x).2.2.1 = s.2.2.1 := rfl
theorem m3_mL (k : Nat) (x : Int64) : (mL s k x).2.2.2 = s.2.2.2 := rfl
theorem m0_mA (k : Nat) (f : Nat → Int32) : (mA s k f).1 = s.1 := rfl
theorem m1_mA (k : Nat) (f : Nat → Int32) : (mA s k f).2.1 = s.2.1 := rfl
theorem m2_mA (k : Nat) (f : Nat → Int32) (q : Nat) : (mA s k f).2.2.1 q = (if q = k then f else s.2.2.1 q) := rfl
theorem m3_mA (k : Nat) (f : Nat → Int32) : (mA s k f).2.2.2 = s.2.2.2 := rfl
theorem m0_mB (k : Nat) (f : Nat → Int64) : (mB s k f).1 = s.1 := rfl
theorem m1_mB (k : Nat) (f : Nat → Int64) : (mB s k f).2.1 = s.2.1 := rfl
theorem m2_mB (k : Nat) (f : Nat → Int64) : (mB s k f).2.2.1 = s.2.2.1 := rfl
theorem m3_mB (k : Nat) (f : Nat → Int64) (q : Nat) : (mB s k f).2.2.2 q = (if q = k then f else s.2.2.2 q) := rfl
end M4
end
-- ### 45.pread.lean.txt
section
/-! ===== numbers ===== -/
theorem i32t {m : Nat} (h : m < 2147483648) : (Int32.ofNat m).toInt = (m : Int) := Int32.toInt_ofNat_of_lt (by omega)
theorem i32c {m : Nat} (h : m < 2147483648) : (Int32.ofNat m).toNatClampNeg = m := by
  show (Int32.ofNat m).toInt.toNat = m
  rw [i32t h]
  rfl
theorem i32lt {a b : Nat} (ha : a < 2147483648) (hb : b < 2147483648) : (Int32.ofNat a < Int32.ofNat b) ↔ a < b := by
  rw [Int32.lt_iff_toInt_lt, i32t ha, i32t hb]
  omega
theorem i32le {a b : Nat} (ha : a < 2147483648) (hb : b < 2147483648) : (Int32.ofNat a ≤ Int32.ofNat b) ↔ a ≤ b := by
  rw [Int32.le_iff_toInt_le, i32t ha, i32t hb]
  omega
theorem i32eq {a b : Nat} (ha : a < 2147483648) (hb : b < 2147483648) : (Int32.ofNat a = Int32.ofNat b) ↔ a = b := by
  constructor
  · intro h
    have := congrArg Int32.toInt h
    rw [i32t ha, i32t hb] at this
    omega
  · intro h
    rw [h]
theorem i32n {a : Nat} (ha : a < 2147483648) : ¬ Int32.ofNat a < 0 := by
  intro h
  have := Int32.lt_iff_toInt_lt.mp h
  rw [i32t ha] at this
  have h0 : (0 : Int32).toInt = 0 := rfl
  omega
theorem i32_max (a : Int32) : a.toInt < 2147483648 := Int32.toInt_lt a
/-- an int that is not below 0 is a number -/
theorem i32of {a : Int32} (h : ¬ a < 0) : ∃ m : Nat, m < 2147483648 ∧ a = Int32.ofNat m := by
  have h0 : 0 ≤ a.toInt := Int.not_lt.mp (fun q => h (Int32.lt_iff_toInt_lt.mpr q))
  have h1 := i32_max a
  refine ⟨a.toInt.toNat, by omega, ?_⟩
  apply Int32.toInt_inj.mp
  rw [i32t (by omega)]
  omega
theorem i32add {a b : Nat} : Int32.ofNat a + Int32.ofNat b = Int32.ofNat (a + b) := (Int32.ofNat_add a b).symm
theorem i32mul {a b : Nat} : Int32.ofNat a * Int32.ofNat b = Int32.ofNat (a * b) := (Int32.ofNat_mul a b).symm
/-! ===== PURE: calls that read ===== -/
section PU
variable {N : Nat} {X : Nat → Option zz_C} {t : cS} {s : mS} {a b : Int32}
/-- the latest load's fault -/
def iF (t : cS) (s : mS) : Prop := kI t 0 5 = s.1 45 ∧ kI t 0 6 = s.1 46
theorem p_fault (h : iF t s) : ∃ v : Int32, cf_4 N X a t = some (t, .inl (some (.int v))) ∧ mf_65 N a s = some (s, some (.int v)) := by
  obtain ⟨h1, h2⟩ := h
  unfold cf_4 cf_4_0 mf_65 mf_65_0
  by_cases e0 : a = 0
  · rw [if_neg (fun q => q e0), if_neg (fun q => q e0)]
    exact ⟨s.1 45, by unfold cf_4_4; rw [h1], rfl⟩
  · rw [if_pos e0, if_pos e0]
    unfold cf_4_9 mf_65_11
    by_cases e1 : a = 1
    · rw [if_neg (fun q => q e1), if_neg (fun q => q e1)]
      exact ⟨s.1 46, by unfold cf_4_14 cf_4_22; rw [h2], rfl⟩
    · rw [if_pos e1, if_pos e1]
      exact ⟨-1, rfl, rfl⟩
/-- what was said or shown -/
def iO (t : cS) (s : mS) : Prop := ∃ n : Nat, n < 2147483648 ∧ s.1 87 = Int32.ofNat n ∧ kI t 45 1 = Int32.ofNat n ∧ (∀ i, i < n → i < 600 → (kA t 46).2 i = s.2.2.1 86 i) ∧ (n ≤ (kA t 46).1 ∨ 600 ≤ (kA t 46).1) ∧ (kA t 46).1 ≤ 600
theorem p_outs (h : iO t s) : ∃ v : Int32, cf_9 N X t = some (t, .inl (some (.int v))) ∧ mf_71 N s = some (s, some (.int v)) := by
  obtain ⟨n, h0, h1, h2, -⟩ := h
  refine ⟨s.1 87, ?_, rfl⟩
  rw [h1, ← h2]
  rfl
theorem p_out (h : iO t s) : ∃ v : Int32, cf_8 N X a t = some (t, .inl (some (.int v))) ∧ mf_70 N a s = some (s, some (.int v)) := by
  obtain ⟨n, h0, h1, h2, h3, h4, h5⟩ := h
  have hc : ∀ v : Int32, cf_49 N X a t = some (t, .inl (some (.int v))) → cf_8 N X a t = some (t, .inl (some (.int v))) := fun v q => by
    unfold cf_8 cf_8_0
    rw [q]
    rfl
  suffices H : ∃ v : Int32, cf_49 N X a t = some (t, .inl (some (.int v))) ∧ mf_70 N a s = some (s, some (.int v)) by
    obtain ⟨v, q1, q2⟩ := H
    exact ⟨v, hc v q1, q2⟩
  unfold cf_49 cf_49_0 mf_70 mf_70_0
  by_cases e0 : a < 0
  · rw [if_pos e0, if_pos e0]
    exact ⟨-1, rfl, rfl⟩
  · rw [if_neg e0, if_neg e0]
    obtain ⟨m, hm, rfl⟩ := i32of e0
    unfold cf_49_4 mf_70_4
    rw [h1, h2]
    by_cases e1 : n ≤ m
    · rw [if_pos ((i32le h0 hm).mpr e1), if_pos ((i32le h0 hm).mpr e1)]
      exact ⟨-1, rfl, rfl⟩
    · rw [if_neg (fun q => e1 ((i32le h0 hm).mp q)), if_neg (fun q => e1 ((i32le h0 hm).mp q))]
      unfold cf_49_12 mf_70_12
      by_cases e2 : m < 600
      · have e3 : ¬ (kA t 46).1 ≤ m := by omega
        rw [if_neg (fun q => e3 ((i32le (by omega) hm).mp q)), if_pos (show Int32.ofNat m < 600 from (i32lt hm (b := 600) (by decide)).mpr e2)]
        unfold cf_49_21 mf_70_23
        rw [i32c hm, if_pos (fun q => q.elim e0 e3), if_pos (fun q => q.elim e0 (by omega))]
        exact ⟨s.2.2.1 86 m, by rw [h3 m (by omega) e2]; rfl, rfl⟩
      · have e3 : (kA t 46).1 ≤ m := by omega
        rw [if_pos ((i32le (by omega) hm).mpr e3), if_neg (show ¬ Int32.ofNat m < 600 from fun q => e2 ((i32lt hm (b := 600) (by decide)).mp q))]
        exact ⟨-1, rfl, rfl⟩
/-- the latest run's tally -/
def iT (t : cS) (s : mS) : Prop := kI t 48 0 = s.1 68 ∧ (¬ s.1 68 = 0 → kI t 48 6 = s.1 66 ∧ kI t 48 7 = s.1 67 ∧ kI t 48 8 = (if s.1 66 = 9 then s.1 65 else 0) ∧ kI t 48 2 = s.1 60 ∧ kI t 48 3 = s.1 62 ∧ kI t 48 4 = s.1 63 ∧ kI t 48 5 = s.1 64)
theorem p_trouble (h : iT t s) : ∃ v : Int32, cf_7 N X a t = some (t, .inl (some (.int v))) ∧ mf_69 N a s = some (s, some (.int v)) := by
  obtain ⟨h0, h1⟩ := h
  have hc : ∀ v : Int32, cf_52 N X a t = some (t, .inl (some (.int v))) → cf_7 N X a t = some (t, .inl (some (.int v))) := fun v q => by
    unfold cf_7 cf_7_0
    rw [q]
    rfl
  suffices H : ∃ v : Int32, cf_52 N X a t = some (t, .inl (some (.int v))) ∧ mf_69 N a s = some (s, some (.int v)) by
    obtain ⟨v, q1, q2⟩ := H
    exact ⟨v, hc v q1, q2⟩
  unfold cf_52 cf_52_0 mf_69 mf_69_0
  rw [h0]
  by_cases e0 : s.1 68 = 0
  · rw [if_neg (fun q => q e0), if_neg (fun q => q e0)]
    exact ⟨-1, rfl, rfl⟩
  · rw [if_pos e0, if_pos e0]
    obtain ⟨g1, g2, g3, g4, g5, g6, g7⟩ := h1 e0
    unfold cf_52_9 mf_69_9
    by_cases e1 : Int32.toInt a < 0 ∨ 6 < Int32.toInt a
    · rw [if_pos e1, if_pos e1]
      exact ⟨-1, rfl, rfl⟩
    · rw [if_neg e1, if_neg e1]
      have hv : a.toInt = 0 ∨ a.toInt = 1 ∨ a.toInt = 2 ∨ a.toInt = 3 ∨ a.toInt = 4 ∨ a.toInt = 5 ∨ a.toInt = 6 := by omega
      rcases hv with hv | hv | hv | hv | hv | hv | hv
      · have e : a = 0 := Int32.toInt_inj.mp (hv.trans rfl)
        subst e
        exact ⟨s.1 66, by rw [if_pos rfl]; unfold cf_52_52; rw [g1], rfl⟩
      · have e : a = 1 := Int32.toInt_inj.mp (hv.trans rfl)
        subst e
        exact ⟨s.1 67, by rw [if_neg (by decide), if_pos rfl]; unfold cf_52_57; rw [g2], rfl⟩
      · have e : a = 2 := Int32.toInt_inj.mp (hv.trans rfl)
        subst e
        refine ⟨if s.1 66 = 9 then s.1 65 else 0, by rw [if_neg (by decide), if_neg (by decide), if_pos rfl]; unfold cf_52_62; rw [g3], ?_⟩
        rw [if_neg (by decide), if_neg (by decide), if_pos rfl]
        unfold mf_69_62
        by_cases e9 : s.1 66 = 9
        · rw [if_neg (fun q => q e9), if_pos e9]
          rfl
        · rw [if_pos e9, if_neg e9]
          rfl
      · have e : a = 3 := Int32.toInt_inj.mp (hv.trans rfl)
        subst e
        exact ⟨s.1 60, by rw [if_neg (by decide), if_neg (by decide), if_neg (by decide), if_pos rfl]; unfold cf_52_67; rw [g4], rfl⟩
      · have e : a = 4 := Int32.toInt_inj.mp (hv.trans rfl)
        subst e
        exact ⟨s.1 62, by rw [if_neg (by decide), if_neg (by decide), if_neg (by decide), if_neg (by decide), if_pos rfl]; unfold cf_52_72; rw [g5], rfl⟩
      · have e : a = 5 := Int32.toInt_inj.mp (hv.trans rfl)
        subst e
        exact ⟨s.1 63, by rw [if_neg (by decide), if_neg (by decide), if_neg (by decide), if_neg (by decide), if_neg (by decide), if_pos rfl]; unfold cf_52_77; rw [g6], rfl⟩
      · have e : a = 6 := Int32.toInt_inj.mp (hv.trans rfl)
        subst e
        exact ⟨s.1 64, by rw [if_neg (by decide), if_neg (by decide), if_neg (by decide), if_neg (by decide), if_neg (by decide), if_neg (by decide), if_pos rfl]; unfold cf_52_82; rw [g7], rfl⟩
/-- the program's functions, as function() tells them (p: the class's program; e: the reference's half) -/
def iG (t : cS) (s : mS) (p e m : Nat) : Prop := kP t 0 3 = some p ∧ (p = 12 ∨ p = 21) ∧ kI t p 4 = Int32.ofNat m ∧ s.1 14 = Int32.ofNat m ∧ m ≤ 12 ∧ s.1 12 = Int32.ofNat e ∧ e ≤ 1 ∧ (kA t (p + 6)).1 = 12 ∧ (kA t (p + 7)).1 = 12 ∧ (kA t (p + 8)).1 = 12 ∧ ∀ f, f < m → (kA t (p + 6)).2 f = s.2.2.1 18 (12 * e + f) ∧ (kA t (p + 7)).2 f = s.2.2.1 19 (12 * e + f) ∧ (kA t (p + 8)).2 f = s.2.2.1 17 (12 * e + f)
theorem p_function {p e m : Nat} (h : iG t s p e m) : ∃ v : Int32, cf_5 N X a b t = some (t, .inl (some (.int v))) ∧ mf_67 N a b s = some (s, some (.int v)) := by
  obtain ⟨h1, h2, h3, h4, h5, h6, h7, h8, h9, h10, h11⟩ := h
  have hc : ∀ v : Int32, cf_33 N X p a b t = some (t, .inl (some (.int v))) → cf_5 N X a b t = some (t, .inl (some (.int v))) := fun v q => by
    unfold cf_5 cf_5_0
    rw [h1]
    show (if p = 12 ∨ p = 21 then _ else none) = _
    rw [if_pos h2, q]
    rfl
  suffices H : ∃ v : Int32, cf_33 N X p a b t = some (t, .inl (some (.int v))) ∧ mf_67 N a b s = some (s, some (.int v)) by
    obtain ⟨v, q1, q2⟩ := H
    exact ⟨v, hc v q1, q2⟩
  unfold cf_33 cf_33_0 mf_67 mf_67_0
  by_cases e0 : a < 0
  · rw [if_pos e0, if_pos e0]
    exact ⟨-1, rfl, rfl⟩
  · rw [if_neg e0, if_neg e0]
    obtain ⟨f, hf, rfl⟩ := i32of e0
    unfold cf_33_4 mf_67_4
    rw [if_pos h2, h3, h4]
    by_cases e1 : f < m
    · rw [if_pos ((i32lt hf (by omega)).mpr e1), if_pos ((i32lt hf (by omega)).mpr e1)]
      obtain ⟨g1, g2, g3⟩ := h11 f e1
      have e3 : (12 : Int32) * s.1 12 + Int32.ofNat f = Int32.ofNat (12 * e + f) := by
        rw [h6]
        exact (congrArg (· + Int32.ofNat f) (i32mul (a := 12) (b := e))).trans i32add
      have e4 : (Int32.ofNat (12 * e + f)).toNatClampNeg = 12 * e + f := i32c (by omega)
      have e5 : ¬ (Int32.ofNat (12 * e + f) < 0 ∨ 24 ≤ (Int32.ofNat (12 * e + f)).toNatClampNeg) := fun q => q.elim (i32n (by omega)) (by rw [e4]; omega)
      have e6 : ¬ (Int32.ofNat f < 0 ∨ 12 ≤ (Int32.ofNat f).toNatClampNeg) := fun q => q.elim (i32n hf) (by rw [i32c hf]; omega)
      unfold cf_33_14 mf_67_14
      rw [e3]
      by_cases b0 : b = 0
      · subst b0
        rw [if_neg (by decide), if_pos rfl, if_neg (fun q => q rfl)]
        unfold cf_33_40 mf_67_28
        rw [if_pos h2, h8, if_pos e6, if_pos e5, i32c hf, e4]
        exact ⟨_, rfl, by rw [g1]; rfl⟩
      · rw [if_pos b0]
        unfold mf_67_37
        by_cases b1 : b = 1
        · subst b1
          rw [if_neg (by decide), if_neg (by decide), if_pos rfl, if_neg (fun q => q rfl)]
          unfold cf_33_47 mf_67_42
          rw [if_pos h2, h9, if_pos e6, if_pos e5, i32c hf, e4]
          exact ⟨_, rfl, by rw [g2]; rfl⟩
        · rw [if_pos b1]
          unfold mf_67_51
          by_cases b2 : b = 2
          · subst b2
            rw [if_neg (by decide), if_neg (by decide), if_neg (by decide), if_pos rfl, if_neg (fun q => q rfl)]
            unfold cf_33_54 mf_67_56
            rw [if_pos h2, h10, if_pos e6, if_pos e5, i32c hf, e4]
            exact ⟨_, rfl, by rw [g3]; rfl⟩
          · rw [if_pos b2, if_pos (by
              refine Classical.byContradiction fun q => ?_
              have hv : b.toInt = 0 ∨ b.toInt = 1 ∨ b.toInt = 2 := by omega
              rcases hv with hv | hv | hv
              · exact b0 (Int32.toInt_inj.mp (hv.trans rfl))
              · exact b1 (Int32.toInt_inj.mp (hv.trans rfl))
              · exact b2 (Int32.toInt_inj.mp (hv.trans rfl)))]
            exact ⟨-1, rfl, rfl⟩
    · rw [if_neg (fun q => e1 ((i32lt hf (by omega)).mp q)), if_neg (fun q => e1 ((i32lt hf (by omega)).mp q))]
      exact ⟨-1, rfl, rfl⟩
end PU
end
