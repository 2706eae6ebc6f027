/-! ===== PURE: run (11): what lies on the stack, as a list of values ===== -/
def vfI (q : Nat) : Prop := q = 48 ∨ q = 51 ∨ q = 55 ∨ q = 56 ∨ q = 57 ∨ q = 62 ∨ q = 66 ∨ q = 67
def vfA (q : Nat) : Prop := q = 47 ∨ q = 49 ∨ q = 50 ∨ q = 52 ∨ q = 53 ∨ q = 54
/-- what work on values leaves alone -/
def vfr (n f : Nat) (s s' : mS) : Prop := mfr vfI (fun q => q = 89) vfA (fun _ => False) s s' ∧ (∀ y, y < n → s'.2.2.1 49 y = s.2.2.1 49 y ∧ s'.2.2.1 50 y = s.2.2.1 50 y) ∧ ∀ y, y < f → s'.2.2.1 47 y = s.2.2.1 47 y
/-- from s on, xs was laid on the stack from n on; free is now f' -/
def rG (s s' : mS) (n f f' : Nat) (xs : List Nod) : Prop := (s'.1 51 = Int32.ofNat (n + xs.length) ∧ s'.1 48 = Int32.ofNat f' ∧ f ≤ f') ∧ (∀ i (hi : i < xs.length), rvl (s'.2.2.1 47) f' (s'.2.2.1 49 (n + i)) (s'.2.2.1 50 (n + i)) xs[i]) ∧ vfr n f s s' ∧ s'.1 62 = s.1 62 ∧ s'.1 66 = s.1 66 ∧ s'.1 67 = s.1 67
section RGS
variable {N : Nat} {s s' s'' : mS} {f f' f'' a i n : Nat} {k v : Int32} {x : Nod} {xs : List Nod} {zs : List Int32}
theorem vfr.rf : vfr n f s s := ⟨mfr.rf, fun _ _ => ⟨rfl, rfl⟩, fun _ _ => rfl⟩
theorem vfr.tr (h : vfr n f s s') (g : vfr n f' s' s'') (hf : f ≤ f') : vfr n f s s'' := ⟨mfr.tr h.1 g.1, fun y hy => ⟨(g.2.1 y hy).1.trans (h.2.1 y hy).1, (g.2.1 y hy).2.trans (h.2.1 y hy).2⟩, fun y hy => (g.2.2 y (Nat.lt_of_lt_of_le hy hf)).trans (h.2.2 y hy)⟩
theorem rG.nil (h48 : s.1 48 = Int32.ofNat f) : rG s (mI s 51 (Int32.ofNat n)) n f f [] := by
  refine ⟨⟨rfl, h48, Nat.le_refl _⟩, fun i hi => absurd hi (Nat.not_lt_zero _), ⟨⟨fun q r => ?_, fun _ _ => rfl, fun _ _ => rfl, fun _ _ => rfl⟩, fun _ _ => ⟨rfl, rfl⟩, fun _ _ => rfl⟩, rfl, rfl, rfl⟩
  refine if_neg ?_
  unfold vfI at r
  omega
theorem rG.push (H : rG s s' n f f' xs) (hn : n + xs.length < 9000) (hx : rvl (s'.2.2.1 47) f' k v x) : mf_291 N k v s' = some (pus s' (n + xs.length) k v, none) ∧ rG s (pus s' (n + xs.length) k v) n f f' (xs ++ [x]) := by
  obtain ⟨⟨h1, h2, h3⟩, hv, ⟨g1, g2, g3⟩, h62, h66, h67⟩ := H
  refine ⟨r_psh h1 hn, ⟨?_, h2, h3⟩, fun i hi => ?_, ⟨⟨fun q r => ?_, g1.2.1, fun q r => ?_, g1.2.2.2⟩, fun y hy => ⟨?_, ?_⟩, g3⟩, h62, h66, h67⟩
  · rw [List.length_append]
    rfl
  · show rvl (s'.2.2.1 47) f' (if n + i = n + xs.length then k else s'.2.2.1 49 (n + i)) (if n + i = n + xs.length then v else s'.2.2.1 50 (n + i)) _
    rw [List.length_append] at hi
    have hi : i < xs.length + 1 := hi
    by_cases z : i < xs.length
    · rw [if_neg (by omega), if_neg (by omega), List.getElem_append_left z]
      exact hv i z
    · have z : i = xs.length := by omega
      subst z
      rw [if_pos rfl, if_pos rfl, List.getElem_append_right (Nat.le_refl _)]
      simp only [Nat.sub_self, List.getElem_cons_zero]
      exact hx
  · show (if q = 51 then _ else s'.1 q) = _
    rw [if_neg (fun z => r (by unfold vfI; omega))]
    exact g1.1 q r
  · show (if q = 50 then _ else if q = 49 then _ else s'.2.2.1 q) = _
    rw [if_neg (fun z => r (by unfold vfA; omega)), if_neg (fun z => r (by unfold vfA; omega))]
    exact g1.2.2.1 q r
  · show (if y = n + xs.length then _ else s'.2.2.1 49 y) = _
    rw [if_neg (by omega)]
    exact (g2 y hy).1
  · show (if y = n + xs.length then _ else s'.2.2.1 50 y) = _
    rw [if_neg (by omega)]
    exact (g2 y hy).2
theorem rvl_Z {h : Nat → Int32} {z : Int32} : rvl h f (Int32.ofNat 0) z (nZ z) := Or.inl ⟨rfl, rfl⟩
theorem rG.pushZ (H : rG s s' n f f' xs) (hn : n + xs.length < 9000) (z : Int32) : ∃ s'', mf_291 N (Int32.ofNat 0) z s' = some (s'', none) ∧ rG s s'' n f f' (xs ++ [nZ z]) := ⟨_, (rG.push H hn rvl_Z).1, (rG.push (N := N) H hn rvl_Z).2⟩
theorem rG.elem (H : rG s s' n f f' xs) (hn : n + xs.length < 9000) (hf : f' ≤ 166300) (Hx : LayN (s.2.2.1 47) (Rf f) a x) (hi : i < (pts x).length) : ∃ s'', mf_295 N (Int32.ofNat a) (Int32.ofNat i) s' = some (s'', none) ∧ rG s s'' n f f' (xs ++ [(pts x)[i]]) := by
  have Hx' : LayN (s'.2.2.1 47) (Rf f') a x := LayN.congr (fun y z => ⟨Nat.lt_of_lt_of_le z.1 H.1.2.2, z.2⟩) (fun y z => H.2.2.1.2.2 y z.1) Hx
  obtain ⟨k, v, e1, e2⟩ := r_elem (N := N) Hx' hf hi H.1.1 hn
  exact ⟨_, e1, (rG.push (N := N) H hn e2).2⟩
theorem rvl.z {h : Nat → Int32} {z : Int32} (H : rvl h f k v (nZ z)) : k = Int32.ofNat 0 ∧ v = z := by
  rcases H with ⟨h1, h2⟩ | ⟨h1, h2, h3⟩
  · have h2 : some z = some v := h2
    cases h2
    exact ⟨h1, rfl⟩
  · have h2 : some z = none := h2
    cases h2
theorem rG.row (hN : 170000 ≤ N) (H : rG s s' n f f' (xs ++ zs.map nZ)) (hn : n + xs.length + zs.length < 9000) (hf : 154240 ≤ f' ∧ f' + 2 + zs.length ≤ 166300) : ∃ s'', mf_306 N (Int32.ofNat (n + xs.length)) s' = some (s'', none) ∧ rG s s'' n f (f' + 2 + zs.length) (xs ++ [nR zs]) := by
  obtain ⟨⟨h1, h2, h3⟩, hv, ⟨g1, g2, g3⟩, h62, h66, h67⟩ := H
  have hl : (xs ++ zs.map nZ).length = xs.length + zs.length := by rw [List.length_append, List.length_map]
  have h1' : s'.1 51 = Int32.ofNat (n + xs.length + zs.length) := by rw [h1, hl, Nat.add_assoc]
  obtain ⟨s'', e1, e2, e3, e4, e5, e6, e7, e8⟩ := r_rowOf (N := N) (zs := zs) (n := n + xs.length) hN h2 h1' (fun j hj => by
    have q := hv (xs.length + j) (by omega)
    rw [List.getElem_append_right (by omega)] at q
    simp only [Nat.add_sub_cancel_left, List.getElem_map] at q
    rw [Nat.add_assoc]
    exact (rvl.z q).2) hn hf
  refine ⟨s'', e1, ⟨?_, e4, by omega⟩, fun i hi => ?_, ⟨⟨fun q r => ?_, fun q r => ?_, fun q r => ?_, fun q r => ?_⟩, fun y hy => ⟨?_, ?_⟩, fun y hy => ?_⟩, ?_, ?_, ?_⟩
  · rw [e5, List.length_append]
    rfl
  · rw [List.length_append] at hi
    have hi : i < xs.length + 1 := hi
    by_cases z : i < xs.length
    · rw [List.getElem_append_left z, (e7 (n + i) (by omega)).1, (e7 (n + i) (by omega)).2]
      have q := hv i (by omega)
      rw [List.getElem_append_left z] at q
      exact rvl.up q (by omega) e3
    · have z : i = xs.length := by omega
      subst z
      rw [List.getElem_append_right (Nat.le_refl _)]
      simp only [Nat.sub_self, List.getElem_cons_zero]
      exact Or.inr ⟨e6.1, rfl, f', e6.2, e2⟩
  · exact (e8.1 q (fun z => r (by unfold vfI; omega))).trans (g1.1 q r)
  · exact (e8.2.1 q (fun z => z)).trans (g1.2.1 q r)
  · exact (e8.2.2.1 q (fun z => r (by unfold vfA; omega))).trans (g1.2.2.1 q r)
  · exact (e8.2.2.2 q (fun z => z)).trans (g1.2.2.2 q r)
  · exact ((e7 y (by omega)).1).trans (g2 y hy).1
  · exact ((e7 y (by omega)).2).trans (g2 y hy).2
  · exact (e3 y (by omega)).trans (g3 y hy)
  · exact (e8.1 62 (by omega)).trans h62
  · exact (e8.1 66 (by omega)).trans h66
  · exact (e8.1 67 (by omega)).trans h67
end RGS
