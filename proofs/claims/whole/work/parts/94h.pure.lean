/-! ===== PURE: load (2): a call is bound ===== -/
section BND
variable {N : Nat} {X : Nat → Option zz_C} {t t' t1 t2 : cS} {s s' s1 s2 : mS} {b : Nat → Nat} {n p e i op c D m : Nat} {code code1 : List Ins} {cl : List Cn} {Fs : List Fn} {c' : Ins}
theorem flat_set2 {α : Type} {f g : Nat → List α} {n m : Nat} {a a' : α} {pre l : List α} (hm : m < n) (h : ∀ k, k < n → ¬ k = m → g k = f k) (hf : f m = pre ++ a :: l) (hg : g m = pre ++ a' :: l) : ((List.range n).flatMap f).set (((List.range m).flatMap f).length + pre.length) a' = (List.range n).flatMap g := by
  obtain ⟨d, rfl⟩ : ∃ d, n = m + (1 + d) := ⟨n - m - 1, by omega⟩
  rw [List.range_add, List.flatMap_append, List.flatMap_append, List.set_append_right _ _ (by omega), Nat.add_sub_cancel_left]
  have e1 : (List.range m).flatMap f = (List.range m).flatMap g := flat_congr fun k hk => (h k (by have := List.mem_range.mp hk; omega) (by have := List.mem_range.mp hk; omega)).symm
  rw [e1]
  congr 1
  rw [List.range_add, List.map_append, List.flatMap_append, List.flatMap_append]
  have e2 : ∀ q : Nat → List α, ((List.range 1).map (m + ·)).flatMap q = q m := fun q => by
    show (q (m + 0) ++ []) = q m
    rw [List.append_nil]
    rfl
  rw [e2, e2, hf, hg, List.append_assoc, List.append_assoc, List.set_append_right _ _ (Nat.le_refl _), Nat.sub_self]
  show pre ++ (a' :: l ++ _) = _
  congr 2
  refine flat_congr fun k hk => ?_
  obtain ⟨k1, hk1, hk2⟩ := List.mem_map.mp hk
  obtain ⟨k2, hk3, hk4⟩ := List.mem_map.mp hk1
  have := List.mem_range.mp hk3
  exact (h k (by omega) (by omega)).symm
theorem flat_get2 {α : Type} {f : Nat → List α} {n m : Nat} {a : α} {pre l : List α} (hm : m < n) (hf : f m = pre ++ a :: l) : ∃ h : ((List.range m).flatMap f).length + pre.length < ((List.range n).flatMap f).length, ((List.range n).flatMap f)[((List.range m).flatMap f).length + pre.length] = a := by
  obtain ⟨d, rfl⟩ : ∃ d, n = m + (1 + d) := ⟨n - m - 1, by omega⟩
  have e2 : ((List.range 1).map (m + ·)).flatMap f = f m := by
    show (f (m + 0) ++ []) = f m
    rw [List.append_nil]
    rfl
  have e3 : ∃ r, (List.range (m + (1 + d))).flatMap f = ((List.range m).flatMap f ++ pre) ++ a :: r := by
    rw [List.range_add, List.flatMap_append, List.range_add, List.map_append, List.flatMap_append, e2, hf]
    refine ⟨l ++ (List.map (fun x => m + x) (List.map (fun x => 1 + x) (List.range d))).flatMap f, ?_⟩
    rw [List.append_assoc, List.append_assoc]
    rfl
  obtain ⟨r, hr⟩ := e3
  refine ⟨by rw [hr, List.length_append, List.length_append, List.length_cons]; omega, ?_⟩
  simp only [hr]
  rw [List.getElem_append_right (by rw [List.length_append]; exact Nat.le_refl _)]
  simp only [List.length_append, Nat.sub_self, List.getElem_cons_zero]
theorem CA_set2 {a a' : C3} {pre l : List C3} (hm : m < code.length) (hl : clen c' = clen (code.getD m dI)) (h1 : cI code (posC code m) (code.getD m dI) = pre ++ a :: l) (h2 : cI code (posC code m) c' = pre ++ a' :: l) : CA (code.set m c') = (CA code).set (posC code m + pre.length) a' := by
  have hp : ∀ j, posC (code.set m c') j = posC code j := fun j => posC_set hl
  unfold CA
  rw [List.length_set]
  have e0 : posC code m = ((List.range m).flatMap fun k => cI code (posC code k) (code.getD k dI)).length := by
    rw [CA_pre, rng_take (Nat.le_of_lt hm)]
    rfl
  rw [e0]
  refine (flat_set2 hm (fun k hk hne => ?_) h1 ?_).symm
  · show cI (code.set m c') (posC (code.set m c') k) ((code.set m c').getD k dI) = _
    rw [hp, getD_set_ne hne]
    exact cI_pos hp
  · show cI (code.set m c') (posC (code.set m c') m) ((code.set m c').getD m dI) = _
    rw [hp, getD_set_eq hm, cI_pos hp]
    exact h2
theorem RA_set2 {a a' : R5} {pre l : List R5} (hm : m < code.length) (hl : rlen c' = rlen (code.getD m dI)) (h1 : rI e code (code.getD m dI) = pre ++ a :: l) (h2 : rI e code c' = pre ++ a' :: l) : RA e (code.set m c') = (RA e code).set (posR code m + pre.length) a' := by
  have hp : ∀ j, posR (code.set m c') j = posR code j := fun j => posR_set hl
  unfold RA
  rw [List.length_set]
  have e0 : posR code m = ((List.range m).flatMap fun k => rI e code (code.getD k dI)).length := by
    rw [RA_pre, rng_take (Nat.le_of_lt hm)]
    rfl
  rw [e0]
  refine (flat_set2 hm (fun k hk hne => ?_) h1 ?_).symm
  · show rI e (code.set m c') ((code.set m c').getD k dI) = _
    rw [getD_set_ne hne]
    exact rI_pos hp
  · show rI e (code.set m c') ((code.set m c').getD m dI) = _
    rw [getD_set_eq hm, rI_pos hp]
    exact h2
theorem CA_get2 {a : C3} {pre l : List C3} (hm : m < code.length) (h1 : cI code (posC code m) (code.getD m dI) = pre ++ a :: l) : ∃ h : posC code m + pre.length < (CA code).length, (CA code)[posC code m + pre.length] = a := by
  have e0 : posC code m = ((List.range m).flatMap fun k => cI code (posC code k) (code.getD k dI)).length := by
    rw [CA_pre, rng_take (Nat.le_of_lt hm)]
    rfl
  obtain ⟨g1, g2⟩ := flat_get2 (f := fun k => cI code (posC code k) (code.getD k dI)) hm h1
  simp only [← e0] at g1 g2
  exact ⟨g1, g2⟩
theorem RA_get2 {a : R5} {pre l : List R5} (hm : m < code.length) (h1 : rI e code (code.getD m dI) = pre ++ a :: l) : ∃ h : posR code m + pre.length < (RA e code).length, (RA e code)[posR code m + pre.length] = a := by
  have e0 : posR code m = ((List.range m).flatMap fun k => rI e code (code.getD k dI)).length := by
    rw [RA_pre, rng_take (Nat.le_of_lt hm)]
    rfl
  obtain ⟨g1, g2⟩ := flat_get2 (f := fun k => rI e code (code.getD k dI)) hm h1
  simp only [← e0] at g1 g2
  exact ⟨g1, g2⟩
/-- a call's instruction, bound -/
def bnd (f : Nat) (c : Ins) : Ins := (c.1, f, c.2.2)
theorem eff_bnd {f : Nat} {c : Ins} (h : c.1 = 9 ∨ c.1 = 10) (L : List Nat) : eff (bnd f c) L = eff c L := by
  obtain ⟨o, j, r, a, q, x, y⟩ := c
  have h : o = 9 ∨ o = 10 := h
  rcases h with h | h <;> subst h <;> rfl
/-- what bindCalls' amend does to the acts -/
theorem c_bnd {x : Cn} {f : Nat} (h : cCd t p (CA code)) (hl : cx code < 6500) (hx : okN code x) (hf : f < 99) : ∃ t', cf_210 N X p (cK code x).1 (Int32.ofNat f) t = some (t', .inl none) ∧ cCd t' p (CA (code.set x.1 (bnd f (code.getD x.1 dI)))) ∧ gL (fun _ _ => False) (aC p) t t' := by
  obtain ⟨x1, x2, x3, x4, x5, x6, x7⟩ := hx
  have kk : (bnd f (code.getD x.1 dI)).1 = (code.getD x.1 dI).1 := rfl
  have hfa : fa f = Int32.ofNat f := if_neg (by show ¬ f = 99999; omega)
  have key : ∃ pre a a0 a2 l, x.2.1 = (pre : List C3).length ∧ cI code (posC code x.1) (code.getD x.1 dI) = pre ++ (a, a0, a2) :: l ∧ cI code (posC code x.1) (bnd f (code.getD x.1 dI)) = pre ++ (a, Int32.ofNat f, a2) :: l := by
    generalize code.getD x.1 dI = c at *
    obtain ⟨o, j, r, a, q, u, y⟩ := c
    rcases x7 with ⟨y1, y2⟩ | ⟨y1, y2⟩
    · have y1 : o = 9 := y1
      subst y1
      refine ⟨[], 28, fa j, q, [], y2, rfl, ?_⟩
      rw [← hfa]
      rfl
    · have y1 : o = 10 := y1
      subst y1
      refine ⟨[(25, 0, q)], (if r = 1 then 13 else 15), fa j, q, [(if r = 1 then 14 else 16, Int32.ofNat (posC code x.1 + 1), q)], y2, rfl, ?_⟩
      rw [← hfa]
      rfl
  obtain ⟨pre, a, a0, a2, l, z1, z2, z3⟩ := key
  obtain ⟨g1, g2⟩ := CA_get2 x1 z2
  obtain ⟨t', b1, b2, b3, b4⟩ := c_amend (N := N) (X := X) (v := Int32.ofNat f) h g1 (by rw [CA_len]; exact hl)
  rw [g2] at b2
  refine ⟨t', ?_, ?_, b3⟩
  · show cf_210 N X p (Int32.ofNat (posC code x.1 + x.2.1)) (Int32.ofNat f) t = _
    rw [z1]
    exact b1
  · rw [CA_set2 x1 (clen_k kk) z2 z3]
    exact b2
/-- what resolve does to the orders -/
theorem r_bnd {x : Cn} {f : Nat} (h : rCd s e (RA e code)) (hx : okN code x) (hf : f < 99) : (s.2.2.1 23 (ob0 e + posR code x.1 + x.2.1) = (if (code.getD x.1 dI).1 = 9 then Int32.ofNat 9 else Int32.ofNat 11)) ∧ posR code x.1 + x.2.1 < rl code ∧ ((code.getD x.1 dI).1 = 9 → rCd (mA s 24 (upd (s.2.2.1 24) (ob0 e + posR code x.1 + x.2.1) (Int32.ofNat (fb0 e + f)))) e (RA e (code.set x.1 (bnd f (code.getD x.1 dI)))) ∧ fO e s (mA s 24 (upd (s.2.2.1 24) (ob0 e + posR code x.1 + x.2.1) (Int32.ofNat (fb0 e + f))))) ∧ ((code.getD x.1 dI).1 = 10 → rCd (mA s 25 (upd (s.2.2.1 25) (ob0 e + posR code x.1 + x.2.1) (Int32.ofNat (fb0 e + f)))) e (RA e (code.set x.1 (bnd f (code.getD x.1 dI)))) ∧ fO e s (mA s 25 (upd (s.2.2.1 25) (ob0 e + posR code x.1 + x.2.1) (Int32.ofNat (fb0 e + f))))) := by
  obtain ⟨x1, x2, x3, x4, x5, x6, x7⟩ := hx
  have kk : (bnd f (code.getD x.1 dI)).1 = (code.getD x.1 dI).1 := rfl
  have hfr : fr e f = Int32.ofNat (fb0 e + f) := if_neg (by show ¬ f = 99999; omega)
  have hz := h
  rcases x7 with ⟨y1, y2⟩ | ⟨y1, y2⟩
  · have key : ∃ a1 a3 a4 a5, rI e code (code.getD x.1 dI) = [] ++ (Int32.ofNat 9, a1, a3, a4, a5) :: [] ∧ rI e code (bnd f (code.getD x.1 dI)) = [] ++ (Int32.ofNat 9, Int32.ofNat (fb0 e + f), a3, a4, a5) :: [] := by
      generalize code.getD x.1 dI = c at *
      obtain ⟨o, j, r, a, q, u, y⟩ := c
      have y1 : o = 9 := y1
      subst y1
      refine ⟨fr e j, Int32.ofNat r, 0, q, rfl, ?_⟩
      rw [← hfr]
      rfl
    obtain ⟨a1, a3, a4, a5, z2, z3⟩ := key
    obtain ⟨g1, g2⟩ := RA_get2 x1 z2
    have g1 : posR code x.1 + 0 < (RA e code).length := g1
    have g2 : (RA e code)[posR code x.1 + 0] = (Int32.ofNat 9, a1, a3, a4, a5) := g2
    obtain ⟨w1, w2⟩ := h.seta (v := Int32.ofNat (fb0 e + f)) g1
    rw [g2] at w1
    have w3 := (hz.2.2.2.2 (posR code x.1 + 0) g1).1
    rw [g2] at w3
    rw [RA_len] at g1
    rw [y2]
    have e1 : ob0 e + posR code x.1 + 0 = ob0 e + (posR code x.1 + 0) := by omega
    rw [e1]
    refine ⟨by rw [w3, if_pos y1], g1, fun _ => ⟨?_, w2⟩, fun q => by omega⟩
    rw [RA_set2 x1 (rlen_k kk) z2 z3]
    exact w1
  · have key : ∃ u1 a1 a3 a4 a5, rI e code (code.getD x.1 dI) = [u1] ++ (Int32.ofNat 11, a1, a3, a4, a5) :: [] ∧ rI e code (bnd f (code.getD x.1 dI)) = [u1] ++ (Int32.ofNat 11, a1, Int32.ofNat (fb0 e + f), a4, a5) :: [] := by
      generalize code.getD x.1 dI = c at *
      obtain ⟨o, j, r, a, q, u, y⟩ := c
      have y1 : o = 10 := y1
      subst y1
      refine ⟨(10, Int32.ofNat (27 + r), 0, 0, q), Int32.ofNat (27 + r), fr e j, 0, q, rfl, ?_⟩
      rw [← hfr]
      rfl
    obtain ⟨u1, a1, a3, a4, a5, z2, z3⟩ := key
    obtain ⟨g1, g2⟩ := RA_get2 x1 z2
    have g1 : posR code x.1 + 1 < (RA e code).length := g1
    have g2 : (RA e code)[posR code x.1 + 1] = (Int32.ofNat 11, a1, a3, a4, a5) := g2
    obtain ⟨w1, w2⟩ := h.setb (v := Int32.ofNat (fb0 e + f)) g1
    rw [g2] at w1
    have w3 := (hz.2.2.2.2 (posR code x.1 + 1) g1).1
    rw [g2] at w3
    rw [RA_len] at g1
    rw [y2]
    have e1 : ob0 e + posR code x.1 + 1 = ob0 e + (posR code x.1 + 1) := by omega
    rw [e1]
    refine ⟨by rw [w3, if_neg (by omega)], g1, fun q => by omega, fun _ => ⟨?_, w2⟩⟩
    rw [RA_set2 x1 (rlen_k kk) z2 z3]
    exact w1
end BND
