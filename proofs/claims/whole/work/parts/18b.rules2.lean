/-! ===== rules, with any heap; the next place told ===== -/
section ZRH
variable {P : Nat → Option zz_M} {tf : Nat → Nat → FieldType} {fd : Nat → List Value} {X : Nat → Option zz_C}
variable {d : Nat} {M : zz_M} {pc : Nat} {lv : List (Nat × Value)} {st : List Value} {h : zz_H} {Q : Option Value → zz_H → Prop}
theorem zz_E.n (pc' : Nat) {r : zz_N} {lv' : List (Nat × Value)} {st' : List Value} {h' : zz_H} (hrow : zz_row M pc = some r) (hc : zz_cls r = 0) (hs : zz_step1 tf fd X M.1.2.2.1 r pc lv st h = some ((pc', lv', st'), h')) (k : zz_E P tf fd X d M pc' lv' st' h' Q) : zz_E P tf fd X d M pc lv st h Q := zz_E.i hrow hc hs k
theorem zz_E.cl (pc' : Nat) {r : zz_N} {as rest : List Value} {M' : zz_M} (hrow : zz_row M pc = some r) (hc : zz_cls r = 2) (hnn : ¬ r.2.2.2.2.2 < 0) (hs : zz_site X r.2.1 r.2.2.2.2.1 r.2.2.2.2.2 st h = some (as, rest)) (hM : P r.2.2.2.1 = some M') (hl : r.2.2.1 = 3 ∧ zz_words as ≤ M'.1.2.2.1) (hp : pc + 3 = pc')
    (k : zz_E P tf fd X d M' 0 (lv_args 0 as) [] h (fun v h' => zz_E P tf fd X (d + 1) M pc' lv (v.toList ++ rest) h' Q)) : zz_E P tf fd X (d + 1) M pc lv st h Q := by
  subst hp
  exact zz_E.call hrow hc hnn hs hM hl k
theorem zz_E.gf (pc' : Nat) {a ci k cp pc0 : Nat} {nn : Int} {fs : List Value} {v : Value} (hrow : zz_row M pc = some (pc0, .getfield cp, 3, ci, k, nn)) (ha : zz_at h a = some (.inr (ci, fs))) (hv : fs[k]? = some v) (hp : pc + 3 = pc') (kk : zz_E P tf fd X d M pc' lv (v :: st) h Q) (hci : ci < 20 := by decide) : zz_E P tf fd X d M pc lv (.ref a :: st) h Q := by
  subst hp
  refine zz_E.i hrow rfl ?_ kk
  show (if ci < 20 then zz_getf ci k 3 pc lv (.ref a :: st) h else zz_getx X ci k 3 pc lv (.ref a :: st) h) = _
  rw [if_pos hci]
  unfold zz_getf
  simp only [ha, hv]
  simp
theorem zz_E.pf (pc' : Nat) {a ci k cp pc0 : Nat} {nn : Int} {fs : List Value} {v : Value} (hrow : zz_row M pc = some (pc0, .putfield cp, 3, ci, k, nn)) (ha : zz_at h a = some (.inr (ci, fs))) (hk : k < fs.length) (hf : zz_fit (tf ci k) v = true) (hp : pc + 3 = pc') (kk : zz_E P tf fd X d M pc' lv st (h.set a (.inr (ci, fs.set k v))) Q) : zz_E P tf fd X d M pc lv (v :: .ref a :: st) h Q := by
  subst hp
  refine zz_E.i hrow rfl ?_ kk
  show zz_putf (tf ci k) ci k 3 pc lv (v :: .ref a :: st) h = _
  unfold zz_putf
  simp only [ha]
  rw [if_pos ⟨trivial, trivial, hk, hf⟩]
theorem zz_E.bast (pc' : Nat) {a n pc0 na nb t : Nat} {nn : Int} {f : Nat → Int32} {x i : Int32} (hrow : zz_row M pc = some (pc0, .bastore, 1, na, nb, nn)) (ha : zz_at h a = some (.inl (t, n, .inl f))) (ht : t = 2 ∨ t = 3) (hi : ¬ (i < 0 ∨ n ≤ i.toNatClampNeg)) (hp : pc + 1 = pc') (kk : zz_E P tf fd X d M pc' lv st (h.set a (.inl (t, n, .inl (upd f i.toNatClampNeg (vp_nar (zz_ty t) x))))) Q) : zz_E P tf fd X d M pc lv (.int x :: .int i :: .ref a :: st) h Q := by
  subst hp
  refine zz_E.i hrow rfl ?_ kk
  show zz_bast 1 pc lv (.int x :: .int i :: .ref a :: st) h = _
  unfold zz_bast
  simp only [ha]
  rw [if_pos ⟨trivial, ht, hi⟩]
theorem zz_E.iast (pc' : Nat) {a n pc0 na nb : Nat} {nn : Int} {f : Nat → Int32} {x i : Int32} (hrow : zz_row M pc = some (pc0, .iastore, 1, na, nb, nn)) (ha : zz_at h a = some (.inl (0, n, .inl f))) (hi : ¬ (i < 0 ∨ n ≤ i.toNatClampNeg)) (hp : pc + 1 = pc') (kk : zz_E P tf fd X d M pc' lv st (h.set a (.inl (0, n, .inl (upd f i.toNatClampNeg x)))) Q) : zz_E P tf fd X d M pc lv (.int x :: .int i :: .ref a :: st) h Q := by
  subst hp
  refine zz_E.i hrow rfl ?_ kk
  show zz_iast 1 pc lv (.int x :: .int i :: .ref a :: st) h = _
  unfold zz_iast
  simp only [ha]
  rw [if_pos ⟨trivial, trivial, hi⟩]
theorem zz_E.last (pc' : Nat) {a n pc0 na nb : Nat} {nn : Int} {f : Nat → Int64} {x : Int64} {i : Int32} (hrow : zz_row M pc = some (pc0, .lastore, 1, na, nb, nn)) (ha : zz_at h a = some (.inl (1, n, .inr (.inl f)))) (hi : ¬ (i < 0 ∨ n ≤ i.toNatClampNeg)) (hp : pc + 1 = pc') (kk : zz_E P tf fd X d M pc' lv st (h.set a (.inl (1, n, .inr (.inl (vp_updL f i.toNatClampNeg x))))) Q) : zz_E P tf fd X d M pc lv (.long x :: .int i :: .ref a :: st) h Q := by
  subst hp
  refine zz_E.i hrow rfl ?_ kk
  show zz_last 1 pc lv (.long x :: .int i :: .ref a :: st) h = _
  unfold zz_last
  simp only [ha]
  rw [if_pos ⟨trivial, trivial, hi⟩]
theorem zz_rd_at {a : Nat} {x : zz_C} (ha : zz_at h a = some x) : zz_rd X h a = some x := by
  obtain ⟨h1, h2⟩ := zz_at_ok ha
  unfold zz_rd
  rw [if_pos h1]
  exact h2
theorem zz_E.iald (pc' : Nat) {a n pc0 na nb : Nat} {nn : Int} {f : Nat → Int32} {i : Int32} (hrow : zz_row M pc = some (pc0, .iaload, 1, na, nb, nn)) (ha : zz_rd X h a = some (.inl (0, n, .inl f))) (hi : ¬ (i < 0 ∨ n ≤ i.toNatClampNeg)) (hp : pc + 1 = pc') (kk : zz_E P tf fd X d M pc' lv (.int (f i.toNatClampNeg) :: st) h Q) : zz_E P tf fd X d M pc lv (.int i :: .ref a :: st) h Q := by
  subst hp
  refine zz_E.i hrow rfl ?_ kk
  show zz_iald X 1 pc lv (.int i :: .ref a :: st) h = _
  unfold zz_iald
  simp only [ha]
  rw [if_pos ⟨trivial, trivial, hi⟩]
theorem zz_E.bald (pc' : Nat) {a n t pc0 na nb : Nat} {nn : Int} {f : Nat → Int32} {i : Int32} (hrow : zz_row M pc = some (pc0, .baload, 1, na, nb, nn)) (ha : zz_rd X h a = some (.inl (t, n, .inl f))) (ht : t = 2 ∨ t = 3) (hi : ¬ (i < 0 ∨ n ≤ i.toNatClampNeg)) (hp : pc + 1 = pc') (kk : zz_E P tf fd X d M pc' lv (.int (f i.toNatClampNeg) :: st) h Q) : zz_E P tf fd X d M pc lv (.int i :: .ref a :: st) h Q := by
  subst hp
  refine zz_E.i hrow rfl ?_ kk
  show zz_bald X 1 pc lv (.int i :: .ref a :: st) h = _
  unfold zz_bald
  simp only [ha]
  rw [if_pos ⟨trivial, ht, hi⟩]
theorem zz_E.lald (pc' : Nat) {a n pc0 na nb : Nat} {nn : Int} {f : Nat → Int64} {i : Int32} (hrow : zz_row M pc = some (pc0, .laload, 1, na, nb, nn)) (ha : zz_rd X h a = some (.inl (1, n, .inr (.inl f)))) (hi : ¬ (i < 0 ∨ n ≤ i.toNatClampNeg)) (hp : pc + 1 = pc') (kk : zz_E P tf fd X d M pc' lv (.long (f i.toNatClampNeg) :: st) h Q) : zz_E P tf fd X d M pc lv (.int i :: .ref a :: st) h Q := by
  subst hp
  refine zz_E.i hrow rfl ?_ kk
  show zz_lald X 1 pc lv (.int i :: .ref a :: st) h = _
  unfold zz_lald
  simp only [ha]
  rw [if_pos ⟨trivial, trivial, hi⟩]
theorem zz_E.al (pc' : Nat) {a n t pc0 na nb : Nat} {nn : Int} {f : (Nat → Int32) ⊕ (Nat → Int64) ⊕ (Nat → UInt32) ⊕ (Nat → UInt64) ⊕ (Nat → Option Nat)} (hrow : zz_row M pc = some (pc0, .arraylength, 1, na, nb, nn)) (ha : zz_rd X h a = some (.inl (t, n, f))) (ht : t < 6 ∨ ¬ a < zz_out) (hp : pc + 1 = pc') (kk : zz_E P tf fd X d M pc' lv (.int (Int32.ofNat n) :: st) h Q) : zz_E P tf fd X d M pc lv (.ref a :: st) h Q := by
  subst hp
  refine zz_E.i hrow rfl ?_ kk
  show zz_alen X 1 pc lv (.ref a :: st) h = _
  unfold zz_alen
  simp only [ha]
  rw [if_pos ⟨trivial, ht⟩]
theorem zz_E.jf (pc' : Nat) {cd : ClassFile.Cond} {off : Int} {x : Int32} {pc0 na nb : Nat} {nn : Int} (hrow : zz_row M pc = some (pc0, .ifCond cd off, 3, na, nb, nn)) (hb : zz_cond cd x 0 = false) (ht : 0 ≤ (pc : Int) + off) (hp : pc + 3 = pc') (k : zz_E P tf fd X d M pc' lv st h Q) : zz_E P tf fd X d M pc lv (.int x :: st) h Q := by
  subst hp
  exact zz_E.if1 hrow hb ht k
theorem zz_E.jt (pc' : Nat) {cd : ClassFile.Cond} {off : Int} {x : Int32} {pc0 na nb : Nat} {nn : Int} (hrow : zz_row M pc = some (pc0, .ifCond cd off, 3, na, nb, nn)) (hb : zz_cond cd x 0 = true) (ht : 0 ≤ (pc : Int) + off) (hp : zz_to pc off = pc') (k : zz_E P tf fd X d M pc' lv st h Q) : zz_E P tf fd X d M pc lv (.int x :: st) h Q := by
  subst hp
  exact zz_E.if1 hrow hb ht k
theorem zz_E.kf (pc' : Nat) {cd : ClassFile.Cond} {off : Int} {x y : Int32} {pc0 na nb : Nat} {nn : Int} (hrow : zz_row M pc = some (pc0, .if_icmp cd off, 3, na, nb, nn)) (hb : zz_cond cd x y = false) (ht : 0 ≤ (pc : Int) + off) (hp : pc + 3 = pc') (k : zz_E P tf fd X d M pc' lv st h Q) : zz_E P tf fd X d M pc lv (.int y :: .int x :: st) h Q := by
  subst hp
  exact zz_E.if2 hrow hb ht k
theorem zz_E.kt (pc' : Nat) {cd : ClassFile.Cond} {off : Int} {x y : Int32} {pc0 na nb : Nat} {nn : Int} (hrow : zz_row M pc = some (pc0, .if_icmp cd off, 3, na, nb, nn)) (hb : zz_cond cd x y = true) (ht : 0 ≤ (pc : Int) + off) (hp : zz_to pc off = pc') (k : zz_E P tf fd X d M pc' lv st h Q) : zz_E P tf fd X d M pc lv (.int y :: .int x :: st) h Q := by
  subst hp
  exact zz_E.if2 hrow hb ht k
end ZRH
/-- a heap with two cells told -/
def zw2 (h : zz_H) (a b : Nat) (c d : zz_C) : zz_H := (h.set a c).set b d
theorem zw2_a {h : zz_H} {a b : Nat} {c d : zz_C} (hn : a ≠ b) (ha : a < h.length) (ho : a < zz_out) : zz_at (zw2 h a b c d) a = some c := by
  unfold zz_at zw2
  rw [if_pos ho, List.getElem?_set_ne (Ne.symm hn), List.getElem?_set_self ha]
theorem zw2_b {h : zz_H} {a b : Nat} {c d : zz_C} (hb : b < h.length) (ho : b < zz_out) : zz_at (zw2 h a b c d) b = some d := by
  unfold zz_at zw2
  rw [if_pos ho, List.getElem?_set_self (by rw [List.length_set]; exact hb)]
theorem zw2_sa {h : zz_H} {a b : Nat} {c d c' : zz_C} (hn : a ≠ b) : (zw2 h a b c d).set a c' = zw2 h a b c' d := by
  unfold zw2
  rw [List.set_comm _ _ (Ne.symm hn), List.set_set]
theorem zw2_sb {h : zz_H} {a b : Nat} {c d d' : zz_C} : (zw2 h a b c d).set b d' = zw2 h a b c d' := by
  unfold zw2
  rw [List.set_set]
