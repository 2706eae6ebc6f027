/-! ===== PURE: run (92): what bounds the run ===== -/
/-- what is paid ahead -/
def crI (a : It) : Nat := if a.1 = 5 then 8 else if a.1 = 3 ∨ a.1 = 4 then 2 else if a.1 = 6 ∨ a.1 = 8 then 3 else 0
def crL (l : List It) : Nat := (l.map crI).sum
def cr : List Fm → Nat
  | [] => 0
  | a :: F => 4 + crL a.2.2.2 + cr F
/-- values on top -/
def pvI : List It → Nat
  | [] => 0
  | a :: l => if a.1 = 0 ∨ a.1 = 1 ∨ a.1 = 7 then 1 + pvI l else if a.1 = 6 then a.2.2 / 2 + pvI l else if a.1 = 8 then pvI l else 0
def pv : List Fm → Nat
  | [] => 0
  | a :: F => pvI a.2.2.2 + pv F
/-- steps paid ahead -/
def n5I (l : List It) : Nat := (l.map fun a => if a.1 = 5 then 1 else 0).sum
def n5 : List Fm → Nat
  | [] => 0
  | a :: F => n5I a.2.2.2 + n5 F
/-- the picture is well, after n acts -/
def CK (code : List Ins) (Fs : List Fn) (fu : Nat) (F : List Fm) (sh : Nat → Option Nod) (T : Ty) (out : List Int32) (n : Nat) : Prop := (PGc code Fs ∧ okTy fu T) ∧ F.length ≤ 10 ∧ (∃ a G, F = a :: G ∧ tyA code a ∧ inF code Fs a ∧ tyT code Fs G) ∧ gdS (cStk F) ∧ (∀ i, i < 8 → ∀ x, sh i = some x → wfN x ∧ x.1 ≤ 4) ∧ n + cr F ≤ 20 * T.1 + 60 * T.2.1 + pv F + 4 ∧ out.length + 9100 * n5 F ≤ 9100 * T.1
section BND
variable {code : List Ins} {Fs : List Fn} {fu b z n m k : Nat} {F G : List Fm} {sh : Nat → Option Nod} {T : Ty} {out : List Int32} {I J : List It} {a : Fm} {L : List Nat}
/-- plain ones -/
theorem plain_len : ∀ {I : List It}, okIs code b z I → plI I → (rIt I).length = nV (kd I) ∧ (cIt I).length ≤ nW (kd I) + 2 * nF (kd I) ∧ (∀ x y, (wIt x y I).length ≤ nF (kd I)) ∧ (∀ x y, (tIt x y I).length ≤ nF (kd I)) ∧ pvI I ≤ nW (kd I)
  | [], _, _ => ⟨rfl, Nat.zero_le _, fun _ _ => Nat.zero_le _, fun _ _ => Nat.zero_le _, Nat.zero_le _⟩
  | a :: I, ho, hp => by
    obtain ⟨o1, o2⟩ := ho
    obtain ⟨h1, h2, h3, h4, h5⟩ := plain_len o2 (fun y hy => hp y (List.mem_cons_of_mem _ hy))
    have ha := hp a List.mem_cons_self
    have e1 : (rIt (a :: I)).length = (iR a).length + (rIt I).length := by rw [rIt_cons, List.length_append]
    have e2 : (cIt (a :: I)).length = (iC a).length + (cIt I).length := by rw [cIt_cons, List.length_append]
    have hv : a.1 = 0 ∨ a.1 = 1 ∨ a.1 = 2 ∨ a.1 = 3 ∨ a.1 = 4 ∨ a.1 = 5 := by omega
    have eV : nV (kd (a :: I)) = nV (kd I) + (if a.1 = 0 then 1 else 0) := rfl
    have eW : nW (kd (a :: I)) = nW (kd I) + (if a.1 ≤ 1 then 1 else 0) := rfl
    have eF : nF (kd (a :: I)) = nF (kd I) + (if 2 ≤ a.1 ∧ a.1 ≤ 4 then 1 else 0) := rfl
    have eP : pvI (a :: I) = if a.1 = 0 ∨ a.1 = 1 ∨ a.1 = 7 then 1 + pvI I else if a.1 = 6 then a.2.2 / 2 + pvI I else if a.1 = 8 then pvI I else 0 := rfl
    have hw : ∀ x y, (wIt x y (a :: I)).length ≤ (wIt x y I).length + (if 2 ≤ a.1 ∧ a.1 ≤ 4 then 1 else 0) := fun x y => by
      show (if a.1 = 2 ∨ a.1 = 3 ∨ a.1 = 6 ∨ a.1 = 8 then (a, (rIt I).length + x, y) :: wIt x y I else wIt x y I).length ≤ _
      by_cases c : a.1 = 2 ∨ a.1 = 3 ∨ a.1 = 6 ∨ a.1 = 8
      · rw [if_pos c, if_pos (by omega)]
        exact Nat.le_refl _
      · rw [if_neg c]
        exact Nat.le_add_right _ _
    have ht : ∀ x y, (tIt x y (a :: I)).length ≤ (tIt x y I).length + (if 2 ≤ a.1 ∧ a.1 ≤ 4 then 1 else 0) := fun x y => by
      show (if a.1 = 3 then (a.2.2, (cIt I).length + x, y) :: tIt x y I else tIt x y I).length ≤ _
      by_cases c : a.1 = 3
      · rw [if_pos c, if_pos (by omega)]
        exact Nat.le_refl _
      · rw [if_neg c]
        exact Nat.le_add_right _ _
    rw [e1, e2, eV, eW, eF, eP]
    have l1 : (iR a).length = if a.1 = 0 then 1 else 0 := by
      unfold iR
      by_cases c : a.1 = 0
      · obtain ⟨x, hx⟩ := o1.2.1 (Or.inl c)
        rw [if_pos c, if_pos c, hx]
        rfl
      · rw [if_neg c, if_neg c, if_neg (by omega)]
        rfl
    have l2 : (iC a).length ≤ (if a.1 ≤ 1 then 1 else 0) + 2 * (if 2 ≤ a.1 ∧ a.1 ≤ 4 then 1 else 0) := by
      unfold iC
      rcases hv with c | c | c | c | c | c
      · obtain ⟨x, hx⟩ := o1.2.1 (Or.inl c)
        rw [if_pos (Or.inl c), hx, if_pos (by omega)]
        exact Nat.le_add_right _ _
      · rw [if_neg (by omega), if_pos c, if_pos (by omega)]
        exact Nat.le_add_right _ _
      · obtain ⟨x, hx, -⟩ := o1.2.2.1 c
        rw [if_neg (by omega), if_neg (by omega), if_pos (Or.inl c), if_pos c, hx, if_neg (by omega), if_pos (by omega)]
        exact Nat.le_refl 2
      · rw [if_neg (by omega), if_neg (by omega), if_neg (by omega)]
        exact Nat.zero_le _
      · rw [if_neg (by omega), if_neg (by omega), if_neg (by omega)]
        exact Nat.zero_le _
      · rw [if_neg (by omega), if_neg (by omega), if_neg (by omega)]
        exact Nat.zero_le _
    refine ⟨by rw [l1]; omega, by omega, fun x y => by have := hw x y; have := h3 x y; omega, fun x y => by have := ht x y; have := h4 x y; omega, ?_⟩
    rcases hv with c | c | c | c | c | c
    · rw [if_pos (Or.inl c), if_pos (by omega)]; omega
    · rw [if_pos (Or.inr (Or.inl c)), if_pos (by omega)]; omega
    · rw [if_neg (by omega), if_neg (by omega), if_neg (by omega)]; exact Nat.zero_le _
    · rw [if_neg (by omega), if_neg (by omega), if_neg (by omega)]; exact Nat.zero_le _
    · rw [if_neg (by omega), if_neg (by omega), if_neg (by omega)]; exact Nat.zero_le _
    · rw [if_neg (by omega), if_neg (by omega), if_neg (by omega)]; exact Nat.zero_le _
/-- how high one call's part may be -/
def hiF (a : Fm) : Prop := (rIt a.2.2.2).length ≤ 870 ∧ (cIt a.2.2.2).length + a.2.2.1.length ≤ 1750 ∧ (∀ x y, (wIt x y a.2.2.2).length ≤ 11) ∧ (∀ x y, (tIt x y a.2.2.2).length ≤ 11) ∧ pvI a.2.2.2 ≤ 1700
theorem hi_pl {L : List Nat} (hP : PGc code Fs) (hL : lyo (code.take m) = some L) (hk : pop0 k L = some (kd I)) (ho : okIs code b z I) (hp : plI I) : (rIt I).length ≤ 805 ∧ (cIt I).length ≤ 1630 ∧ (∀ x y, (wIt x y I).length ≤ 10) ∧ (∀ x y, (tIt x y I).length ≤ 10) ∧ pvI I ≤ 1610 := by
  obtain ⟨-, -, p3, -, -, p6⟩ := hP
  obtain ⟨g1, g2, g3⟩ := hgt2 p3 p6 hL
  have v := pop0_V _ _ _ hk
  have w := pop0_W _ _ _ hk
  have f := pop0_F _ _ _ hk
  obtain ⟨h1, h2, h3, h4, h5⟩ := plain_len ho hp
  exact ⟨by omega, by omega, fun x y => by have := h3 x y; omega, fun x y => by have := h4 x y; omega, by omega⟩
theorem hi_wk {c : Ins} {L : List Nat} {q : Nat} (hP : PGc code Fs) (hL : lyo (code.take m) = some L) (hw : wlk c L q I) (hq : q = 0 ∨ q = 7) (ho : okIs code b z I) (hg : ∀ x, some x ∈ cIt I → wfN x ∧ x.1 ≤ 4) : (rIt I).length ≤ 870 ∧ (cIt I).length ≤ 1700 ∧ (∀ x y, (wIt x y I).length ≤ 11) ∧ (∀ x y, (tIt x y I).length ≤ 10) ∧ pvI I ≤ 1680 := by
  obtain ⟨-, ⟨-, a, J, e, ha, hk, hp⟩ | ⟨-, a, y, J, e, ha, hy, hk, hp⟩⟩ := hw
  · subst e
    obtain ⟨o1, o2⟩ := ho
    obtain ⟨h1, h2, h3, h4, h5⟩ := hi_pl hP hL hk.1 o2 hp
    obtain ⟨rs, x, x1, x2, x3, x4⟩ := o1.2.2.2.2.1 ha
    have ea : iC a = some (nZ (Int32.ofNat (a.2.2 / 2))) :: a.2.1.map some := by
      have n2 : ¬ a.1 = 2 := by omega
      unfold iC
      rw [if_neg (by omega), if_neg (by omega), if_pos (by omega), if_neg n2]
    have hx : wfN x := (hg x (by rw [cIt_cons, ea]; refine List.mem_append_left _ (List.mem_cons_of_mem _ (List.mem_map.mpr ⟨x, by rw [x1]; exact List.mem_append_right _ List.mem_cons_self, rfl⟩)))).1
    have s64 := wf64 hx
    have er : iR a = rs := by
      unfold iR
      rw [if_neg (by omega), if_pos ha, x1, List.dropLast_concat]
    have eP : pvI (a :: J) = a.2.2 / 2 + pvI J := by
      show (if _ then _ else if _ then _ else _) = _
      rw [if_neg (by omega), if_pos ha]
    refine ⟨by rw [rIt_cons, List.length_append, er]; omega, ?_, fun u v => ?_, fun u v => ?_, by rw [eP]; omega⟩
    · rw [cIt_cons, List.length_append, ea, List.length_cons, List.length_map, x1, List.length_append, List.length_singleton]
      omega
    · show (if a.1 = 2 ∨ a.1 = 3 ∨ a.1 = 6 ∨ a.1 = 8 then (a, (rIt J).length + u, v) :: wIt u v J else wIt u v J).length ≤ _
      rw [if_pos (by omega), List.length_cons]
      have := h3 u v
      omega
    · rw [tIt_cons (by omega)]
      exact h4 u v
  · subst e
    obtain ⟨o1, o2, o3⟩ := ho
    obtain ⟨h1, h2, h3, h4, h5⟩ := hi_pl hP hL hk.1 o3 hp
    obtain ⟨x, x1, x2, x3⟩ := o1.2.2.2.2.2 ha
    obtain ⟨x', x1'⟩ := o2.2.1 (by omega)
    have ea : iC a = some (nZ (Int32.ofNat (a.2.2 / 2))) :: a.2.1.map some := by
      have n2 : ¬ a.1 = 2 := by omega
      unfold iC
      rw [if_neg (by omega), if_neg (by omega), if_pos (by omega), if_neg n2]
    have ey : iC y = [some x'] := by
      unfold iC
      rw [if_pos (by omega), x1']
      rfl
    have era : iR a = [] := by
      unfold iR
      rw [if_neg (by omega), if_neg (by omega)]
    have ery : (iR y).length ≤ 1 := by
      unfold iR
      by_cases c : y.1 = 0
      · rw [if_pos c, x1']; exact Nat.le_refl _
      · rw [if_neg c, if_neg (by omega)]; exact Nat.zero_le _
    have eP : pvI (a :: y :: J) ≤ 1 + pvI J := by
      show (if _ then _ else if _ then _ else if _ then (if _ then _ else _) else _) ≤ _
      rw [if_neg (by omega), if_neg (by omega), if_pos ha, if_pos (by omega)]
      exact Nat.le_refl _
    refine ⟨by rw [rIt_cons, rIt_cons, List.length_append, List.length_append, era]; show 0 + _ ≤ _; omega, ?_, fun u v => ?_, fun u v => ?_, by omega⟩
    · rw [cIt_cons, cIt_cons, List.length_append, List.length_append, ea, ey, x1]
      show 2 + (1 + _) ≤ _
      omega
    · show (if a.1 = 2 ∨ a.1 = 3 ∨ a.1 = 6 ∨ a.1 = 8 then (a, (rIt (y :: J)).length + u, v) :: wIt u v (y :: J) else wIt u v (y :: J)).length ≤ _
      rw [if_pos (by omega), List.length_cons, show wIt u v (y :: J) = wIt u v J from if_neg (by omega)]
      have := h3 u v
      omega
    · rw [tIt_cons (by omega), tIt_cons (by omega)]
      exact h4 u v
theorem hi_all {a : Fm} (hP : PGc code Fs) (hf : inF code Fs a) (hg : ∀ x, some x ∈ cIt a.2.2.2 → wfN x ∧ x.1 ≤ 4) (ht : tyA code a ∨ tyS code a) : hiF a := by
  obtain ⟨g, g1, g2, g3, g4, g5⟩ := hf
  have hv := (hP.1 g g1).2.2.2.2.2.2.1
  have key : (rIt a.2.2.2).length ≤ 870 ∧ (cIt a.2.2.2).length ≤ 1700 ∧ (∀ x y, (wIt x y a.2.2.2).length ≤ 11) ∧ (∀ x y, (tIt x y a.2.2.2).length ≤ 10) ∧ pvI a.2.2.2 ≤ 1680 := by
    rcases ht with ⟨L, hL, ⟨-, h2, h3⟩ | ⟨-, h2⟩⟩ | ⟨L, hL, ⟨-, h2, h3⟩ | h2⟩
    · obtain ⟨b1, b2, b3, b4, b5⟩ := hi_pl (k := 0) hP hL (by rw [h2]; rfl) g5 h3
      exact ⟨by omega, by omega, fun x y => by have := b3 x y; omega, b4, by omega⟩
    · exact hi_wk hP hL h2 (Or.inl rfl) g5 hg
    · obtain ⟨b1, b2, b3, b4, b5⟩ := hi_pl hP hL h2 g5 h3
      exact ⟨by omega, by omega, fun x y => by have := b3 x y; omega, b4, by omega⟩
    · exact hi_wk hP hL h2 (Or.inr rfl) g5 hg
  obtain ⟨b1, b2, b3, b4, b5⟩ := key
  exact ⟨b1, by omega, b3, fun x y => by have := b4 x y; omega, by omega⟩
theorem hi_sum : ∀ {F : List Fm}, (∀ a ∈ F, hiF a) → (rStk F).length ≤ 870 * F.length ∧ (cStk F).length ≤ 1750 * F.length ∧ (wStk F).length ≤ 11 * F.length ∧ (tStk F).length ≤ 11 * F.length ∧ pv F ≤ 1700 * F.length
  | [], _ => ⟨Nat.le_refl _, Nat.le_refl _, Nat.le_refl _, Nat.le_refl _, Nat.le_refl _⟩
  | a :: F, h => by
    obtain ⟨h1, h2, h3, h4, h5⟩ := hi_sum (F := F) (fun y hy => h y (List.mem_cons_of_mem _ hy))
    obtain ⟨g1, g2, g3, g4, g5⟩ := h a List.mem_cons_self
    refine ⟨?_, ?_, ?_, ?_, ?_⟩
    · show (rIt a.2.2.2 ++ rStk F).length ≤ _
      rw [List.length_append, List.length_cons]; omega
    · show (cIt a.2.2.2 ++ (a.2.2.1.reverse ++ cStk F)).length ≤ _
      rw [List.length_append, List.length_append, List.length_reverse, List.length_cons]; omega
    · show (wIt _ _ a.2.2.2 ++ wStk F).length ≤ _
      have := g3 (rStk F).length (F.length + 1)
      rw [List.length_append, List.length_cons]; omega
    · show (tIt _ _ a.2.2.2 ++ tStk F).length ≤ _
      have := g4 (a.2.2.1.length + (cStk F).length) (F.length + 1)
      rw [List.length_append, List.length_cons]; omega
    · show pvI a.2.2.2 + pv F ≤ _
      rw [List.length_cons]; omega
theorem mem_cIt {x : Option Nod} {a : Fm} : ∀ {F : List Fm}, a ∈ F → x ∈ cIt a.2.2.2 → x ∈ cStk F
  | [], h, _ => by cases h
  | b :: F, h, hx => by
    show x ∈ cIt b.2.2.2 ++ (b.2.2.1.reverse ++ cStk F)
    rcases List.mem_cons.mp h with r | r
    · rw [← r]
      exact List.mem_append_left _ hx
    · exact List.mem_append_right _ (List.mem_append_right _ (mem_cIt r hx))
/-- the bounds -/
theorem CK.bd (h : CK code Fs fu F sh T out n) : (rStk F).length ≤ 8700 ∧ (cStk F).length ≤ 17500 ∧ (wStk F).length ≤ 110 ∧ (tStk F).length ≤ 110 ∧ pv F ≤ 17000 ∧ n ≤ 597000 := by
  obtain ⟨⟨h1, h2⟩, h3, ⟨a, G, e, t1, t2, t3⟩, h5, h6, h7, h8⟩ := h
  subst e
  have key : ∀ b ∈ a :: G, hiF b := fun b hb => by
    rcases List.mem_cons.mp hb with r | r
    · rw [r]
      exact hi_all h1 t2 (fun x hx => h5 x (mem_cIt List.mem_cons_self hx)) (Or.inl t1)
    · exact hi_all h1 (t3 b r).2 (fun x hx => h5 x (mem_cIt (List.mem_cons_of_mem _ r) hx)) (Or.inr (t3 b r).1)
  obtain ⟨b1, b2, b3, b4, b5⟩ := hi_sum key
  obtain ⟨f1, f2, f3, f4, f5⟩ := h2
  have hcr : cr (a :: G) = 4 + crL a.2.2.2 + cr G := rfl
  rw [hcr] at h7
  exact ⟨by omega, by omega, by omega, by omega, by omega, by omega⟩
end BND
