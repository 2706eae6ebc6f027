/-! ===== PURE: statements (6): jumps ===== -/
def jl (c : Ins) (L L' : List Nat) : Prop := (c.1 = 13 ∧ (L = 0 :: 5 :: L' ∨ L = 0 :: 5 :: 5 :: L')) ∨ (c.1 = 14 ∧ ((c.2.2.1 = 1 ∧ L = 5 :: L') ∨ (¬ c.2.2.1 = 1 ∧ L = 4 :: L'))) ∨ (c.1 = 18 ∧ L = 2 :: L') ∨ (c.1 = 23 ∧ ∃ M, L = 5 :: M ∧ L' = 9 :: M) ∨ (c.1 = 24 ∧ L = 3 :: L')
/-- a jump goes to where what lies on the stack is what it leaves -/
def okJ (code : List Ins) (a m : Nat) : Prop := noJ (code.getD m dI) ∨ (a ≤ (code.getD m dI).2.1 ∧ (code.getD m dI).2.1 ≤ code.length ∧ ((code.getD m dI).1 = 23 → (code.getD (code.getD m dI).2.1 dI).1 = 25 ∧ (code.getD (code.getD m dI).2.1 dI).2.2.1 = (code.getD m dI).2.2.1 ∧ (code.getD (code.getD m dI).2.1 dI).2.2.2.2.1 = (code.getD m dI).2.2.2.2.1) ∧ ∃ L L', lyo (code.take m) = some L ∧ lyo (code.take (code.getD m dI).2.1) = some L' ∧ jl (code.getD m dI) L L')
def JP (code : List Ins) (a z : Nat) : Prop := ∀ m, a ≤ m → m < z → okJ code a m
section JMP
variable {N : Nat} {X : Nat → Option zz_C} {t t' t1 t2 : cS} {s s' s1 s2 : mS} {b : Nat → Nat} {n p e i op D D' : Nat} {code code1 l : List Ins} {vs : List (List Nat)} {cl : List Cn} {W : List Wt} {cu cu' : List Nat} {fs : Nat × Nat × Nat} {Bs : List (Int32 × Int32 × Int32)} {a a' m m0 z z' : Nat} {c c' : Ins}
theorem getD_appl (h : m < code.length) : (code ++ l).getD m dI = code.getD m dI := by
  rw [List.getD_eq_getElem?_getD, List.getD_eq_getElem?_getD, List.getElem?_append_left h]
theorem getD_out (h : code.length ≤ m) : code.getD m dI = dI := by
  rw [List.getD_eq_getElem?_getD, List.getElem?_eq_none h]
  rfl
theorem okJ.app (hm : m < code.length) (h : okJ code a m) : okJ (code ++ l) a m := by
  unfold okJ at h ⊢
  rw [getD_appl hm]
  rcases h with h | ⟨h1, h2, h3, L, L', h4, h5, h6⟩
  · exact Or.inl h
  · refine Or.inr ⟨h1, by rw [List.length_append]; omega, fun z => ?_, L, L', ?_, ?_, h6⟩
    · have h3 := h3 z
      have hlt : (code.getD m dI).2.1 < code.length := by
        by_cases y : (code.getD m dI).2.1 < code.length
        · exact y
        · rw [getD_out (by omega)] at h3
          exact absurd h3.1 (by decide)
      rw [getD_appl hlt]
      exact h3
    · rw [List.take_append_of_le_length (Nat.le_of_lt hm)]
      exact h4
    · rw [List.take_append_of_le_length h2]
      exact h5
theorem okJ.lo (h : okJ code a m) (ha : a' ≤ a) : okJ code a' m := by
  rcases h with h | ⟨h1, h2⟩
  · exact Or.inl h
  · exact Or.inr ⟨Nat.le_trans ha h1, h2⟩
theorem okJ.set (hne : ¬ m = m0) (he : ∀ L, eff c' L = eff (code.getD m0 dI) L) (hk : ¬ (code.getD m0 dI).1 = 25) (h : okJ code a m) : okJ (code.set m0 c') a m := by
  unfold okJ at h ⊢
  rw [getD_set_ne hne]
  rcases h with h | ⟨h1, h2, h3, L, L', h4, h5, h6⟩
  · exact Or.inl h
  · refine Or.inr ⟨h1, by rw [List.length_set]; exact h2, fun z => ?_, L, L', ?_, ?_, h6⟩
    · have h3 := h3 z
      have y : ¬ (code.getD m dI).2.1 = m0 := fun q => hk (by rw [← q]; exact h3.1)
      rw [getD_set_ne y]
      exact h3
    · rw [lyo_set_take he]
      exact h4
    · rw [lyo_set_take he]
      exact h5
theorem JP.app (h : JP code a z) (hz : z ≤ code.length) : JP (code ++ l) a z := fun m h1 h2 => (h m h1 h2).app (by omega)
theorem JP.cat (h : JP code a z) (g : JP code z z') (ha : a ≤ z) : JP code a z' := fun m h1 h2 => by
  by_cases y : m < z
  · exact h m h1 y
  · exact (g m (by omega) h2).lo ha
theorem JP.lo (h : JP code a z) (ha : a' ≤ a) : ∀ m, a ≤ m → m < z → okJ code a' m := fun m h1 h2 => (h m h1 h2).lo ha
theorem JP.no (h : ∀ c ∈ code.drop a, noJ c) : JP code a code.length := fun m h1 h2 => by
  refine Or.inl (h _ ?_)
  rw [List.getD_eq_getElem?_getD, List.getElem?_eq_getElem h2]
  show code[m] ∈ _
  have e1 : code[m] = (code.drop a)[m - a]'(by rw [List.length_drop]; omega) := by
    rw [List.getElem_drop]
    congr 1
    omega
  rw [e1]
  exact List.getElem_mem _
theorem JP.one (h : okJ code m m) : JP code m (m + 1) := fun k h1 h2 => by
  have : k = m := by omega
  subst this
  exact h
theorem mem_drop_set {k : Nat} {x : Ins} (h : x ∈ (code.set m c').drop k) : x = c' ∨ x ∈ code.drop k := by
  obtain ⟨j, hj, e1⟩ := List.mem_iff_getElem.mp h
  rw [List.getElem_drop, List.getElem_set] at e1
  split at e1
  · exact Or.inl e1.symm
  · refine Or.inr ?_
    rw [← e1]
    have hj2 : j < (code.drop k).length := by
      rw [List.length_drop, List.length_set] at hj
      rw [List.length_drop]
      exact hj
    have e2 : (code.drop k)[j] = code[k + j]'(by rw [List.length_drop] at hj2; omega) := List.getElem_drop
    rw [← e2]
    exact List.getElem_mem _
theorem clen_k (h : c.1 = c'.1) : clen c = clen c' := by
  unfold clen
  rw [h]
theorem rlen_k (h : c.1 = c'.1) : rlen c = rlen c' := by
  unfold rlen
  rw [h]
theorem xlen_k (h : c.1 = c'.1) (hj : ¬ noJ c) : xlen c = xlen c' := by
  have hj : c.1 = 13 ∨ c.1 = 14 ∨ c.1 = 18 ∨ c.1 = 23 ∨ c.1 = 24 := Classical.byContradiction hj
  have e : ∀ x : Ins, (x.1 = 13 ∨ x.1 = 14 ∨ x.1 = 18 ∨ x.1 = 23 ∨ x.1 = 24) → xlen x = 0 := fun x hx => by
    unfold xlen
    rw [if_neg (by omega), if_neg (by omega), if_neg (by omega)]
  rw [e c hj, e c' (by omega)]
theorem okX.set (hk : okX code cl cl) (hm : m < code.length) (hkk : c'.1 = (code.getD m dI).1) (hj : ¬ noJ c') : okX (code.set m c') cl cl := by
  have hnc : ¬ ((code.getD m dI).1 = 9 ∨ (code.getD m dI).1 = 10) := fun z => hj (by unfold noJ; omega)
  refine ⟨fun x hx => ?_, fun k hk1 hk2 => ?_⟩
  · obtain ⟨q1, q2, q3, q4, q5, q6, q7⟩ := hk.1 x hx
    have hne : ¬ x.1 = m := fun z => hnc (by rw [← z]; rcases q7 with q7 | q7; exact Or.inl q7.1; exact Or.inr q7.1)
    refine ⟨by rw [List.length_set]; exact q1, q2, q3, q4, q5, ?_, ?_⟩
    · rw [getD_set_ne hne]
      exact q6
    · rw [getD_set_ne hne]
      exact q7
  · rw [List.length_set] at hk1
    by_cases z : k = m
    · subst z
      rw [getD_set_eq hm, hkk] at hk2
      exact absurd hk2 hnc
    · rw [getD_set_ne z] at hk2
      exact hk.2 k hk1 hk2
theorem TY.set {nv : Nat} (h : TY fs nv cu code) (he : ∀ L, eff c' L = eff (code.getD m dI) L) (ho : okI nv c') (hf : m < fs.2.1) : TY fs nv cu (code.set m c') := by
  obtain ⟨y1, y2, y3, y4, y5, y6⟩ := h
  refine ⟨by rw [List.length_set]; exact y1, by rw [lyo_set he]; exact y2, fun x hx => ?_, by rw [List.length_set]; exact y4, fun x hx => ?_, y6⟩
  · rcases mem_drop_set hx with z | z
    · subst z
      exact ho
    · exact y3 x z
  · rw [List.drop_set_of_lt hf] at hx
    exact y5 x hx
theorem wfC.set (h : wfC code) (hw : c'.2.1 ≤ code.length) : wfC (code.set m c') := fun x hx => by
  rw [List.length_set]
  rcases List.mem_or_eq_of_mem_set hx with z | z
  · exact h x z
  · subst z
    exact Or.inr (Or.inl hw)
/-- both have amended an instruction -/
theorem PE.amd (h : PE b n p e i op D code code vs cl W cu fs t s) (hm : m < code.length) (hk : c'.1 = (code.getD m dI).1) (hj : ¬ noJ c') (he : ∀ L, eff c' L = eff (code.getD m dI) L) (hw : c'.2.1 ≤ code.length) (ho : okI vs.length c') (hf : m < fs.2.1) (hc : cCd t' p (CA (code.set m c'))) (hr : rCd s' e (RA e (code.set m c'))) (g : gL (fun _ _ => False) (aC p) t t') (gl : kL t' = kL t) (f : fO e s s') : PE b n p e i op D (code.set m c') (code.set m c') vs cl W cu fs t' s' ∧ FR p e t t' s s' := by
  obtain ⟨h1, hc', hr', ⟨w1, w2, w3⟩, hW, hV, k1, k2, k3, k4, k5, k6, k7⟩ := h
  have hp := hc'.2.1
  have hcl := clen_k hk
  have hrl := rlen_k hk
  have e1 : cl.map (cK (code.set m c')) = cl.map (cK code) := List.map_congr_left fun x hx => by
    unfold cK
    rw [posC_set hcl]
  have e2 : cl.map (rK e (code.set m c')) = cl.map (rK e code) := List.map_congr_left fun x hx => by
    unfold rK
    rw [posR_set hrl]
  have hwf := w1.set (m := m) hw
  exact ⟨⟨(h1.kC g gl (fun k f z => z.elim) (fun k z => by rcases hp with y | y <;> omega)).kR (fun q z => f.1 q (by omega)) (f.2.1 7) (f.2.2.1 2 (by omega)) (f.2.2.2.1 0), hc, hr, ⟨hwf, hwf, ⟨[], by rw [List.append_nil]⟩⟩, hW.keep (f.1 44 (by omega)) (fun q _ => f.2.2.1 q (by omega)) (f.2.2.2.1 42), hV.keep (g.1 2 4 (fun z => z)) (g.2.2.1 7 (fun z => by rcases hp with y | y <;> omega) (by decide)).2.1 (f.1 22 (by omega)) (f.2.2.2.1 21), by rw [e1]; exact k1.keep g (fun z => z) (fun _ z => by rcases hp with y | y <;> omega), by rw [e2]; exact k2.keep (f.1 29 (by omega)) (fun q _ => f.2.2.1 q (by omega)) (f.2.2.2.1 33), k3.set hm hk hj, k4.set he ho hf, by rw [rl_set hrl, xl_set (xlen_k hk hj)]; exact k5, by rw [rl_set hrl]; exact k6, by rw [cx_set hcl]; exact k7⟩, g.mono (fun _ _ z => z.elim) (fun k z => by unfold aQ; omega), fO.Q f⟩
/-- the class amends an act -/
theorem c_amd {x a0 y v : Int32} {lc : List C3} (h : cCd t p (CA code)) (hm : m < code.length) (hl : cx code < 6500) (hk : clen c' = clen (code.getD m dI)) (h1 : cI code (posC code m) (code.getD m dI) = (x, a0, y) :: lc) (h2 : cI code (posC code m) c' = (x, v, y) :: lc) : ∃ t', cf_210 N X p (Int32.ofNat (posC code m)) v t = some (t', .inl none) ∧ cCd t' p (CA (code.set m c')) ∧ gL (fun _ _ => False) (aC p) t t' ∧ kL t' = kL t := by
  obtain ⟨g1, g2⟩ := CA_get hm h1
  obtain ⟨t', b1, b2, b3, b4⟩ := c_amend (N := N) (X := X) (v := v) h g1 (by rw [CA_len]; exact hl)
  rw [g2] at b2
  refine ⟨t', b1, ?_, b3, b4⟩
  rw [CA_set hm hk h1 h2]
  exact b2
/-- the reference tells oa anew -/
theorem r_amda {x1 x2 x3 x4 x5 v : Int32} (h : rCd s e (RA e code)) (hm : m < code.length) (hk : rlen c' = rlen (code.getD m dI)) (h1 : rI e code (code.getD m dI) = [(x1, x2, x3, x4, x5)]) (h2 : rI e code c' = [(x1, v, x3, x4, x5)]) : rCd (mA s 24 (upd (s.2.2.1 24) (ob0 e + posR code m) v)) e (RA e (code.set m c')) ∧ fO e s (mA s 24 (upd (s.2.2.1 24) (ob0 e + posR code m) v)) := by
  obtain ⟨g1, g2⟩ := RA_get hm h1
  obtain ⟨b1, b2⟩ := h.seta (v := v) g1
  rw [g2] at b1
  refine ⟨?_, b2⟩
  rw [RA_set hm hk h1 h2]
  exact b1
theorem r_amdb {x1 x2 x3 x4 x5 v : Int32} (h : rCd s e (RA e code)) (hm : m < code.length) (hk : rlen c' = rlen (code.getD m dI)) (h1 : rI e code (code.getD m dI) = [(x1, x2, x3, x4, x5)]) (h2 : rI e code c' = [(x1, x2, v, x4, x5)]) : rCd (mA s 25 (upd (s.2.2.1 25) (ob0 e + posR code m) v)) e (RA e (code.set m c')) ∧ fO e s (mA s 25 (upd (s.2.2.1 25) (ob0 e + posR code m) v)) := by
  obtain ⟨g1, g2⟩ := RA_get hm h1
  obtain ⟨b1, b2⟩ := h.setb (v := v) g1
  rw [g2] at b1
  refine ⟨?_, b2⟩
  rw [RA_set hm hk h1 h2]
  exact b1
theorem r_amdd {x1 x2 x3 x4 x5 v : Int32} (h : rCd s e (RA e code)) (hm : m < code.length) (hk : rlen c' = rlen (code.getD m dI)) (h1 : rI e code (code.getD m dI) = [(x1, x2, x3, x4, x5)]) (h2 : rI e code c' = [(x1, x2, x3, x4, v)]) : rCd (mA s 27 (upd (s.2.2.1 27) (ob0 e + posR code m) v)) e (RA e (code.set m c')) ∧ fO e s (mA s 27 (upd (s.2.2.1 27) (ob0 e + posR code m) v)) := by
  obtain ⟨g1, g2⟩ := RA_get hm h1
  obtain ⟨b1, b2⟩ := h.setd (v := v) g1
  rw [g2] at b1
  refine ⟨?_, b2⟩
  rw [RA_set hm hk h1 h2]
  exact b1
end JMP
