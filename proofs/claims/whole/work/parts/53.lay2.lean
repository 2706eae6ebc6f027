/-! ===== PURE: lay goes through all parts ===== -/
def sm (f : Nat → Nat) (q : Nat) : Nat → Nat
  | 0 => 0
  | c + 1 => sm f q c + f (q + c)
theorem sm_hd {f : Nat → Nat} : ∀ {q c : Nat}, sm f q (c + 1) = f q + sm f (q + 1) c
  | q, 0 => by
    show 0 + f (q + 0) = f q + 0
    rw [Nat.add_zero, Nat.zero_add, Nat.add_zero]
  | q, c + 1 => by
    show sm f q (c + 1) + f (q + (c + 1)) = f q + (sm f (q + 1) c + f (q + 1 + c))
    rw [sm_hd (c := c), show q + (c + 1) = q + 1 + c by omega, Nat.add_assoc]
theorem sm_congr {f g : Nat → Nat} {q : Nat} : ∀ {c : Nat}, (∀ i, q ≤ i → i < q + c → f i = g i) → sm f q c = sm g q c
  | 0, _ => rfl
  | c + 1, h => by
    show sm f q c + f (q + c) = sm g q c + g (q + c)
    rw [sm_congr (fun i a b => h i a (by omega)), h (q + c) (by omega) (by omega)]
theorem Wy.congr {h h' : Nat → Int32} {b : Nat} {P P' : Nat → Nod → Prop} {v : Vw} (hh : ∀ y, b ≤ y → y < b + wV wn v → h' y = h y) (hP : ∀ c y, P c y → P' c y) (H : Wy h b P v) : Wy h' b P' v := by
  obtain z | r | q | ⟨n, l⟩ := v
  · exact H
  · have hh : ∀ y, b ≤ y → y < b + (2 + r.length) → h' y = h y := hh
    obtain ⟨h1, h2, h3⟩ := H
    exact ⟨by rw [hh _ (by omega) (by omega)]; exact h1, by rw [hh _ (by omega) (by omega)]; exact h2, fun i hi => by rw [hh _ (by omega) (by omega)]; exact h3 i hi⟩
  · have hh : ∀ y, b ≤ y → y < b + (2 + q.length) → h' y = h y := hh
    obtain ⟨h1, h2, h3⟩ := H
    refine ⟨by rw [hh _ (by omega) (by omega)]; exact h1, by rw [hh _ (by omega) (by omega)]; exact h2, fun i hi => ?_⟩
    obtain ⟨c, g1, g2⟩ := h3 i hi
    exact ⟨c, by rw [hh _ (by omega) (by omega)]; exact g1, hP _ _ g2⟩
  · have hh : ∀ y, b ≤ y → y < b + (2 + 2 * l.length) → h' y = h y := hh
    obtain ⟨h1, h2, h3⟩ := H
    refine ⟨by rw [hh _ (by omega) (by omega)]; exact h1, by rw [hh _ (by omega) (by omega)]; exact h2, fun i hi => ⟨fun z hz => ?_, fun hz => ?_⟩⟩
    · rw [hh _ (by omega) (by omega), hh _ (by omega) (by omega)]
      exact (h3 i hi).1 z hz
    · obtain ⟨g0, c, g1, g2⟩ := (h3 i hi).2 hz
      exact ⟨by rw [hh _ (by omega) (by omega)]; exact g0, c, by rw [hh _ (by omega) (by omega)]; exact g1, hP _ _ g2⟩
/-- where the numbers of entry i go -/
def bs (b0 : Nat) (Y : Nat → Nod) (i : Nat) : Nat := b0 + sm (fun i => wV wn (vw (Y i))) 0 i
theorem bs_s {b0 : Nat} {Y : Nat → Nod} {i : Nat} : bs b0 Y (i + 1) = bs b0 Y i + wV wn (vw (Y i)) := by
  show b0 + (sm _ 0 i + wV wn (vw (Y (0 + i)))) = b0 + sm _ 0 i + _
  rw [Nat.zero_add, Nat.add_assoc]
theorem bs_le {b0 : Nat} {Y : Nat → Nod} {i : Nat} : ∀ {j : Nat}, i ≤ j → bs b0 Y i ≤ bs b0 Y j
  | 0, h => by
    have : i = 0 := by omega
    rw [this]
    exact Nat.le_refl _
  | j + 1, h => by
    by_cases e : i = j + 1
    · rw [e]
      exact Nat.le_refl _
    · have := bs_le (b0 := b0) (Y := Y) (i := i) (j := j) (by omega)
      rw [bs_s]
      omega
theorem bs_congr {b0 : Nat} {Y Y' : Nat → Nod} {i : Nat} (h : ∀ j, j < i → Y' j = Y j) : bs b0 Y' i = bs b0 Y i := by
  unfold bs
  rw [sm_congr (g := fun i => wV wn (vw (Y i))) (fun j _ b => by rw [h j (by omega)])]
def rst (w : Nat → Nat → Nat) (y : Nod) : Nat := ((kdsV (vw y)).map (TN w)).sum
/-- the entries -/
def lyE (R : Nat → Prop) (b0 m : Nat) (A : Nat → Nat) (Y : Nat → Nod) (s : mS) : Prop := ∀ i, i < m → s.2.2.1 58 i = Int32.ofNat (A i) ∧ s.2.2.1 59 i = Int32.ofNat (bs b0 Y i) ∧ LayN (s.2.2.1 47) R (A i) (Y i)
/-- a part has an entry behind q -/
def lyP (b0 m : Nat) (Y : Nat → Nod) (q c : Nat) (y : Nod) : Prop := ∃ i, q < i ∧ i < m ∧ Y i = y ∧ bs b0 Y i = c
/-- the entries before q are done -/
def lyD (b0 m q : Nat) (Y : Nat → Nod) (s : mS) : Prop := ∀ i, i < q → Wy (s.2.2.1 47) (bs b0 Y i) (lyP b0 m Y i) (vw (Y i))
/-- what is still to come has room (d: parts of entry q - 1 that have no entry yet) -/
def lyW (w : Nat → Nat → Nat) (T q m d : Nat) (Y : Nat → Nod) : Prop := sm (fun i => wV w (vw (Y i))) 0 m + (sm (fun i => rst w (Y i)) q (m - q) + d) ≤ T
theorem TN_int {w : Nat → Nat → Nat} {y : Nod} {z : Int32} (h : intV (vw y) = some z) : TN w y = 0 := by
  rw [TN_eq]
  generalize vw y = v at h
  obtain z | r | q | ⟨n, l⟩ := v
  · rfl
  · cases h
  · cases h
  · cases h
theorem kdsV_len {v : Vw} : (kdsV v).length = szV v ∨ kdV v = 1 ∧ (kdsV v).length = 0 := by
  obtain z | r | q | ⟨n, l⟩ := v
  · exact Or.inl rfl
  · exact Or.inr ⟨rfl, rfl⟩
  · exact Or.inl (List.length_map _)
  · exact Or.inl (List.length_map _)
theorem ofs_lt {v : Vw} {j : Nat} (h : j < (kdsV v).length) : ofs v j < wV wn v ∧ (kdsV v).length + 2 ≤ wV wn v := by
  obtain z | r | q | ⟨n, l⟩ := v
  · exact absurd h (Nat.not_lt_zero _)
  · exact absurd h (Nat.not_lt_zero _)
  · have e : (kdsV (vT q)).length = q.length := List.length_map _
    rw [e] at h
    show 2 + j < 2 + q.length ∧ (kdsV (vT q)).length + 2 ≤ 2 + q.length
    rw [e]
    omega
  · have e : (kdsV (vP n l)).length = l.length := List.length_map _
    rw [e] at h
    show 3 + 2 * j < 2 + 2 * l.length ∧ (kdsV (vP n l)).length + 2 ≤ 2 + 2 * l.length
    rw [e]
    omega
theorem ofs_inj {v : Vw} {i j : Nat} (h : ofs v i = ofs v j) : i = j := by
  obtain z | r | q | ⟨n, l⟩ := v
  · have h : 2 + i = 2 + j := h
    omega
  · have h : 2 + i = 2 + j := h
    omega
  · have h : 2 + i = 2 + j := h
    omega
  · have h : 3 + 2 * i = 3 + 2 * j := h
    omega
/-- a THING's own numbers were copied, and those that tell of parts changed -/
theorem Wy.of {h : Nat → Int32} {a b : Nat} {P P' : Nat → Nod → Prop} {v : Vw} (H : Wy h a P v) (hc : ∀ y, y < wV wn v → (∀ j (hj : j < (kdsV v).length), intV (vw (kdsV v)[j]) = none → y ≠ ofs v j) → h (b + y) = h (a + y)) (hp : ∀ j (hj : j < (kdsV v).length), intV (vw (kdsV v)[j]) = none → ∃ c : Nat, Int32.ofNat b + h (b + ofs v j) = Int32.ofNat c ∧ P' c (kdsV v)[j]) : Wy h b P' v := by
  obtain z | r | q | ⟨n, l⟩ := v
  · exact H
  · have hc : ∀ y, y < 2 + r.length → h (b + y) = h (a + y) := fun y hy => hc y hy (fun j hj => absurd hj (Nat.not_lt_zero _))
    obtain ⟨h1, h2, h3⟩ := H
    exact ⟨(hc 0 (by omega)).trans h1, (hc 1 (by omega)).trans h2, fun i hi => by rw [Nat.add_assoc, hc (2 + i) (by omega), ← Nat.add_assoc]; exact h3 i hi⟩
  · have el : (kdsV (vT q)).length = q.length := List.length_map _
    have ek : ∀ j (hj : j < q.length), (kdsV (vT q))[j]'(by rw [el]; exact hj) = nR q[j] := fun j hj => List.getElem_map _
    have hc : ∀ y, y < 2 → h (b + y) = h (a + y) := fun y hy => hc y (by show y < 2 + q.length; omega) (fun j hj _ => by show y ≠ 2 + j; omega)
    obtain ⟨h1, h2, h3⟩ := H
    refine ⟨(hc 0 (by omega)).trans h1, (hc 1 (by omega)).trans h2, fun i hi => ?_⟩
    obtain ⟨c, g1, g2⟩ := hp i (by rw [el]; exact hi) (by rw [ek i hi]; rfl)
    rw [ek i hi] at g2
    exact ⟨c, by rw [Nat.add_assoc]; exact g1, g2⟩
  · have el : (kdsV (vP n l)).length = l.length := List.length_map _
    have ek : ∀ j (hj : j < l.length), (kdsV (vP n l))[j]'(by rw [el]; exact hj) = ⟨n, l[j]⟩ := fun j hj => List.getElem_map _
    have hc : ∀ y, y < 2 + 2 * l.length → (∀ j (hj : j < l.length), intT n l[j] = none → y ≠ 3 + 2 * j) → h (b + y) = h (a + y) := fun y hy hn => hc y hy (fun j hj hz => by
      have hj' : j < l.length := by rw [el] at hj; exact hj
      rw [ek j hj', ← vw_int] at hz
      exact hn j hj' hz)
    obtain ⟨h1, h2, h3⟩ := H
    refine ⟨(hc 0 (by omega) (fun j hj _ => by omega)).trans h1, (hc 1 (by omega) (fun j hj _ => by omega)).trans h2, fun i hi => ⟨fun z hz => ?_, fun hz => ?_⟩⟩
    · rw [show b + 2 + 2 * i = b + (2 + 2 * i) by omega, show b + 3 + 2 * i = b + (3 + 2 * i) by omega, hc (2 + 2 * i) (by omega) (fun j hj _ => by omega), hc (3 + 2 * i) (by omega) (fun j hj hn q => by
        have : i = j := by omega
        subst this
        rw [hz] at hn
        cases hn), ← Nat.add_assoc, ← Nat.add_assoc]
      exact (h3 i hi).1 z hz
    · obtain ⟨c, g1, g2⟩ := hp i (by rw [el]; exact hi) (by rw [ek i hi, ← vw_int]; exact hz)
      rw [ek i hi] at g2
      refine ⟨?_, c, by rw [Nat.add_assoc]; exact g1, g2⟩
      rw [show b + 2 + 2 * i = b + (2 + 2 * i) by omega, hc (2 + 2 * i) (by omega) (fun j hj _ => by omega), ← Nat.add_assoc]
      exact ((h3 i hi).2 hz).1
/-- lay's own arrays, and the slot it writes, may change -/
def lyF (b0 : Nat) (s s' : mS) : Prop := mfr (fun _ => False) (fun _ => False) (fun q => q = 47 ∨ q = 58 ∨ q = 59) (fun _ => False) s s' ∧ ∀ y, ¬ (b0 ≤ y ∧ y < b0 + 2410) → s'.2.2.1 47 y = s.2.2.1 47 y
theorem lyF.tr {b0 : Nat} {s s1 s2 : mS} (h : lyF b0 s s1) (g : lyF b0 s1 s2) : lyF b0 s s2 := ⟨h.1.tr g.1, fun y q => (g.2 y q).trans (h.2 y q)⟩
theorem lyF.rf {b0 : Nat} {s : mS} : lyF b0 s s := ⟨mfr.rf, fun _ _ => rfl⟩
theorem LayN.congr {h h' : Nat → Int32} {R R' : Nat → Prop} {a : Nat} {x : Nod} (hR : ∀ y, R y → R' y) (hh : ∀ y, R y → h' y = h y) (H : LayN h R a x) : LayN h' R' a x := Lay.congr hR hh x.1 H
theorem kid_sum {w : Nat → Nat → Nat} {l : List Nod} {i : Nat} (hi : i < l.length) : ((l.drop i).map (TN w)).sum = TN w l[i] + ((l.drop (i + 1)).map (TN w)).sum := by
  rw [List.drop_eq_getElem_cons hi, List.map_cons, List.sum_cons]
section LB
variable {N : Nat} {R : Nat → Prop} {b0 : Nat} {x6 : Int32} {q : Nat}
/-- an entry more -/
theorem lyW.add {w : Nat → Nat → Nat} {T m d : Nat} {Y : Nat → Nod} {y : Nod} (hq : q ≤ m) (h : lyW w T q m (TN w y + d) Y) : lyW w T q (m + 1) d (fun i => if i = m then y else Y i) := by
  unfold lyW at h ⊢
  have e1 : sm (fun i => wV w (vw (if i = m then y else Y i))) 0 (m + 1) = sm (fun i => wV w (vw (Y i))) 0 m + wV w (vw y) := by
    show sm _ 0 m + wV w (vw (if 0 + m = m then y else Y (0 + m))) = _
    rw [Nat.zero_add, if_pos rfl, sm_congr (g := fun i => wV w (vw (Y i))) (fun i _ b => by
      show wV w (vw (if i = m then y else Y i)) = _
      rw [if_neg (by omega)])]
  have e2 : sm (fun i => rst w (if i = m then y else Y i)) q (m + 1 - q) = sm (fun i => rst w (Y i)) q (m - q) + rst w y := by
    rw [show m + 1 - q = (m - q) + 1 by omega]
    show sm _ q (m - q) + rst w (if q + (m - q) = m then y else Y (q + (m - q))) = _
    rw [if_pos (by omega), sm_congr (g := fun i => rst w (Y i)) (fun i _ b => by
      show rst w (if i = m then y else Y i) = _
      rw [if_neg (by omega)])]
  rw [e1, e2]
  have e3 : TN w y = wV w (vw y) + rst w y := TN_eq w y
  omega
theorem lay_in {T T1 a b : Nat} {v : Vw} (hR : ∀ y, R y → y < 166300 ∧ ¬ (b0 ≤ y ∧ y < b0 + 2410)) (hb0 : b0 + 2410 ≤ 166300) (hT : T ≤ 2410) (hT1 : T1 ≤ 700) : ∀ (d i : Nat) (s : mS) (m : Nat) (A : Nat → Nat) (Y : Nat → Nod), i + d = (kdsV v).length → lyE R b0 m A Y s → q < m → v = vw (Y q) → a = A q → b = bs b0 Y q → (∀ y, y < wV wn v → (∀ j (hj : j < (kdsV v).length), j < i → intV (vw (kdsV v)[j]) = none → y ≠ ofs v j) → s.2.2.1 47 (b + y) = s.2.2.1 47 (a + y)) → (∀ j (hj : j < (kdsV v).length), j < i → intV (vw (kdsV v)[j]) = none → ∃ c : Nat, Int32.ofNat b + s.2.2.1 47 (b + ofs v j) = Int32.ofNat c ∧ lyP b0 m Y q c (kdsV v)[j]) → lyD b0 m q Y s → lyW wn T (q + 1) m (((kdsV v).drop i).map (TN wn)).sum Y → lyW w1 T1 (q + 1) m (((kdsV v).drop i).map (TN w1)).sum Y → ∃ s' m' A' Y', (∀ f, mf_75_L1 N (f + (d + 1)) 1 (Int32.ofNat i) (Int32.ofNat m) (Int32.ofNat (bs b0 Y m)) x6 (Int32.ofNat a) (Int32.ofNat b) 0 s = mf_75_L1 N f 0 0 (Int32.ofNat m') (Int32.ofNat (bs b0 Y' m')) (x6 + 1) 0 0 0 s') ∧ m ≤ m' ∧ (∀ i, i < m → Y' i = Y i) ∧ lyE R b0 m' A' Y' s' ∧ lyD b0 m' (q + 1) Y' s' ∧ lyW wn T (q + 1) m' 0 Y' ∧ lyW w1 T1 (q + 1) m' 0 Y' ∧ lyF b0 s s' := by
  intro d
  induction d with
  | zero =>
    intro i s m A Y hi hE hq hv ha hb hc hp hD hW hW1
    have hi : i = (kdsV v).length := hi
    obtain ⟨-, -, E3⟩ := hE q hq
    rw [← ha] at E3
    obtain ⟨L1, L2⟩ := LayN_iff.mp E3
    rw [← hv] at L1 L2
    obtain ⟨k1, k2, k3⟩ := L2.kd
    have hax : a + wV wn v ≤ 166300 := by
      have := (hR _ (L1 (a + wV wn v - 1) (by omega) (by omega))).1
      omega
    rw [hi, List.drop_length] at hW hW1
    refine ⟨s, m, A, Y, fun f => ?_, Nat.le_refl _, fun _ _ => rfl, hE, ?_, hW, hW1, lyF.rf⟩
    · have : i < 166300 := by
        by_cases z : 0 < (kdsV v).length
        · have := (ofs_lt (v := v) z).2
          omega
        · omega
      rcases kdsV_len (v := v) with e | ⟨e, e'⟩
      · exact lay_out L2 hax (Or.inl (by omega)) this
      · exact lay_out L2 hax (Or.inr e) this
    · intro i' hi'
      by_cases e : i' = q
      · subst e
        rw [← hv, ← hb]
        exact L2.of (fun y hy hn => hc y hy (fun j hj _ hz => hn j hj hz)) (fun j hj hz => hp j hj (by omega) hz)
      · exact hD i' (by omega)
  | succ d ih =>
    intro i s m A Y hi hE hq hv ha hb hc hp hD hW hW1
    obtain ⟨-, -, E3⟩ := hE q hq
    rw [← ha] at E3
    obtain ⟨L1, L2⟩ := LayN_iff.mp E3
    rw [← hv] at L1 L2
    obtain ⟨k1, k2, k3⟩ := L2.kd
    have hax : a + wV wn v ≤ 166300 := by
      have := (hR _ (L1 (a + wV wn v - 1) (by omega) (by omega))).1
      omega
    have hil : i < (kdsV v).length := by omega
    rw [kid_sum hil] at hW hW1
    have hbm : b + wV wn v ≤ bs b0 Y m := by
      have := bs_le (b0 := b0) (Y := Y) (i := q + 1) (j := m) (by omega)
      rw [bs_s, ← hv, ← hb] at this
      exact this
    have hbT : bs b0 Y m ≤ b0 + 2410 := by
      unfold lyW at hW
      unfold bs
      omega
    have hb0b : b0 ≤ b := by rw [hb]; exact Nat.le_add_right _ _
    cases hz : intV (vw (kdsV v)[i]) with
    | some z =>
      rw [TN_int hz, Nat.zero_add] at hW hW1
      obtain ⟨s', m', A', Y', g1, g2⟩ := ih (i + 1) s m A Y (by omega) hE hq hv ha hb (fun y hy hn => hc y hy (fun j hj hji => hn j hj (by omega))) (fun j hj hji hjz => by
        by_cases e : j = i
        · subst e
          rw [hz] at hjz
          cases hjz
        · exact hp j hj (by omega) hjz) hD hW hW1
      refine ⟨s', m', A', Y', fun f => ?_, g2⟩
      rw [← g1 f]
      obtain z' | r | q' | ⟨n, l⟩ := v
      · exact L2.elim
      · exact absurd hil (Nat.not_lt_zero _)
      · exfalso
        have ek : (kdsV (vT q'))[i] = nR (q'[i]'(by rw [show (kdsV (vT q')).length = q'.length from List.length_map _] at hil; exact hil)) := List.getElem_map _
        rw [ek] at hz
        cases hz
      · have hil' : i < l.length := by rw [show (kdsV (vP n l)).length = l.length from List.length_map _] at hil; exact hil
        have ek : (kdsV (vP n l))[i] = ⟨n, l[i]⟩ := List.getElem_map _
        rw [ek, ← vw_int] at hz
        exact lay_skip L2 hax hil' hz
    | none =>
      have hm7 : m < 700 := by
        unfold lyW at hW1
        have e1 : ∀ m, (∀ i, i < m → wV w1 (vw (Y i)) = 1) → sm (fun i => wV w1 (vw (Y i))) 0 m = m := fun m => by
          induction m with
          | zero => exact fun _ => rfl
          | succ m ihm =>
            intro hh
            show sm _ 0 m + wV w1 (vw (Y (0 + m))) = m + 1
            rw [ihm (fun i hi => hh i (by omega)), Nat.zero_add, hh m (by omega)]
        have e2 : ∀ i, i < m → wV w1 (vw (Y i)) = 1 := fun i hi => by
          have := (LayN_iff.mp (hE i hi).2.2).2
          generalize vw (Y i) = u at this
          obtain z' | r | q' | l := u
          · exact this.elim
          · rfl
          · rfl
          · rfl
        rw [e1 m e2] at hW1
        have e3 : 1 ≤ TN w1 (kdsV v)[i] := by
          rw [TN_eq]
          generalize vw (kdsV v)[i] = u at hz
          obtain z' | r | q' | l := u
          · cases hz
          · exact Nat.le_add_right _ _
          · exact Nat.le_add_right _ _
          · exact Nat.le_add_right _ _
        omega
      obtain ⟨ho1, ho2⟩ := ofs_lt (v := v) hil
      obtain ⟨c, c1, c2⟩ := lay_part (N := N) (x6 := x6) (e := bs b0 Y m) L2 hax (b := b) (by omega) hm7 hil hz
      obtain ⟨s1, hs1⟩ : ∃ s1, s1 = layS s m c (bs b0 Y m) b (ofs v i) := ⟨_, rfl⟩
      have f47 : s1.2.2.1 47 = upd (s.2.2.1 47) (b + ofs v i) (Int32.ofNat (bs b0 Y m) - Int32.ofNat b) := by rw [hs1]; rfl
      have f58 : s1.2.2.1 58 = upd (s.2.2.1 58) m (Int32.ofNat c) := by rw [hs1]; rfl
      have f59 : s1.2.2.1 59 = upd (s.2.2.1 59) m (Int32.ofNat (bs b0 Y m)) := by rw [hs1]; rfl
      have hup : ∀ y, y ≠ b + ofs v i → s1.2.2.1 47 y = s.2.2.1 47 y := fun y hy => by
        rw [f47]
        exact if_neg hy
      have hsR : ∀ y, R y → s1.2.2.1 47 y = s.2.2.1 47 y := fun y hy => hup y (fun e => (hR y hy).2 ⟨by omega, by omega⟩)
      have hkid : LayN (s1.2.2.1 47) R c (kdsV v)[i] := c1.congr (fun _ z => z) hsR
      obtain ⟨K1, K2⟩ := LayN_iff.mp hkid
      obtain ⟨-, -, K3⟩ := K2.kd
      have hkx : c + wV wn (vw (kdsV v)[i]) ≤ 166300 := by
        have := (hR _ (K1 (c + wV wn (vw (kdsV v)[i]) - 1) (by omega) (by omega))).1
        omega
      have hY : ∀ j, j < m → (fun i' => if i' = m then (kdsV v)[i] else Y i') j = Y j := fun j hj => if_neg (by omega)
      have hYm : (fun i' => if i' = m then (kdsV v)[i] else Y i') m = (kdsV v)[i] := if_pos rfl
      have hbs : ∀ j, j ≤ m → bs b0 (fun i' => if i' = m then (kdsV v)[i] else Y i') j = bs b0 Y j := fun j hj => bs_congr (fun i' hi' => hY i' (by omega))
      have hPm : ∀ q' c' y, lyP b0 m Y q' c' y → lyP b0 (m + 1) (fun i' => if i' = m then (kdsV v)[i] else Y i') q' c' y := fun q' c' y ⟨i', p1, p2, p3, p4⟩ => ⟨i', p1, by omega, (hY i' p2).trans p3, (hbs i' (by omega)).trans p4⟩
      have hdiff : Int32.ofNat b + (Int32.ofNat (bs b0 Y m) - Int32.ofNat b) = Int32.ofNat (bs b0 Y m) := by
        rw [Int32.add_comm]
        exact Int32.sub_add_cancel _ _
      obtain ⟨s', m', A', Y', g1, g2, g3, g4, g5, g6, g7, g8⟩ := ih (i + 1) s1 (m + 1) (fun i' => if i' = m then c else A i') (fun i' => if i' = m then (kdsV v)[i] else Y i') (by omega) (fun j hj => by
        by_cases e : j = m
        · subst e
          refine ⟨?_, ?_, ?_⟩
          · show _ = Int32.ofNat (if j = j then c else A j)
            rw [f58, if_pos rfl]
            exact if_pos rfl
          · rw [f59, hbs j (Nat.le_refl _)]
            exact if_pos rfl
          · show LayN _ R (if j = j then c else A j) (if j = j then (kdsV v)[i] else Y j)
            rw [if_pos rfl, if_pos rfl]
            exact hkid
        · obtain ⟨E1, E2, E3⟩ := hE j (by omega)
          refine ⟨?_, ?_, ?_⟩
          · show _ = Int32.ofNat (if j = m then c else A j)
            rw [f58, if_neg e]
            exact (if_neg e).trans E1
          · rw [f59, hbs j (by omega)]
            exact (if_neg e).trans E2
          · show LayN _ R (if j = m then c else A j) (if j = m then (kdsV v)[i] else Y j)
            rw [if_neg e, if_neg e]
            exact E3.congr (fun _ z => z) hsR) (by omega) (by show v = vw (if q = m then _ else Y q); rw [if_neg (by omega)]; exact hv) (by show a = if q = m then c else A q; rw [if_neg (by omega)]; exact ha) (by rw [hbs q (by omega)]; exact hb) (fun y hy hn => by
        have n1 : y ≠ ofs v i := hn i hil (by omega) hz
        rw [hup _ (by omega), hsR _ (L1 _ (by omega) (by omega))]
        exact hc y hy (fun j hj hji => hn j hj (by omega))) (fun j hj hji hjz => by
        by_cases e : j = i
        · subst e
          exact ⟨bs b0 Y m, by rw [f47]; show _ + (if _ = _ then _ else _) = _; rw [if_pos rfl]; exact hdiff, m, hq, by omega, hYm, hbs m (Nat.le_refl _)⟩
        · obtain ⟨c', p1, p2⟩ := hp j hj (by omega) hjz
          exact ⟨c', by rw [hup _ (fun z => e (ofs_inj (v := v) (by omega)))]; exact p1, hPm _ _ _ p2⟩) (fun i' hi' => by
        rw [hY i' (by omega), hbs i' (by omega)]
        refine (hD i' hi').congr (fun y y1 y2 => hup y (fun e => ?_)) (hPm i')
        have := bs_le (b0 := b0) (Y := Y) (i := i' + 1) (j := q) (by omega)
        rw [bs_s, ← hb] at this
        omega) (hW.add (by omega)) (hW1.add (by omega))
      refine ⟨s', m', A', Y', fun f => ?_, by omega, fun j hj => (g3 j (by omega)).trans (hY j hj), g4, g5, g6, g7, lyF.tr ⟨⟨fun _ _ => by rw [hs1]; rfl, fun _ _ => by rw [hs1]; rfl, fun k hk => ?_, fun _ _ => by rw [hs1]; rfl⟩, fun y hy => hup y (fun e => hy ⟨by omega, by omega⟩)⟩ g8⟩
      · rw [← g1 f, bs_s, hbs m (Nat.le_refl _), if_pos rfl, hs1]
        exact c2 (f + (d + 1)) _ (fun N' => by
          rw [← hs1]
          exact r_nums K2 hkx)
      · rw [hs1]
        show (if k = 47 then _ else if k = 59 then _ else if k = 58 then _ else _) = _
        rw [if_neg (fun z => hk (Or.inl z)), if_neg (fun z => hk (Or.inr (Or.inr z))), if_neg (fun z => hk (Or.inr (Or.inl z)))]
/-- from entry q on to the end -/
theorem lay_all {T T1 : Nat} (hR : ∀ y, R y → y < 166300 ∧ ¬ (b0 ≤ y ∧ y < b0 + 2410)) (hb0 : b0 + 2410 ≤ 166300) (hT : T ≤ 2410) (hT1 : T1 ≤ 700) : ∀ (d q : Nat) (s : mS) (m : Nat) (A : Nat → Nat) (Y : Nat → Nod), T1 ≤ q + d → q ≤ m → lyE R b0 m A Y s → lyD b0 m q Y s → lyW wn T q m 0 Y → lyW w1 T1 q m 0 Y → ∃ c s' m' Y', c + 3 * (bs b0 Y q - b0) ≤ 3 * T + 1 ∧ (∀ f, mf_75_L1 N (f + c) 0 0 (Int32.ofNat m) (Int32.ofNat (bs b0 Y m)) (Int32.ofNat q) 0 0 0 s = some (s', none)) ∧ m ≤ m' ∧ (∀ i, i < m → Y' i = Y i) ∧ lyD b0 m' m' Y' s' ∧ bs b0 Y' m' ≤ b0 + T ∧ lyF b0 s s' := by
  intro d
  induction d with
  | zero =>
    intro q s m A Y hd hq hE hD hW hW1
    have hm : m ≤ T1 := by
      unfold lyW at hW1
      have e1 : ∀ m, (∀ i, i < m → wV w1 (vw (Y i)) = 1) → sm (fun i => wV w1 (vw (Y i))) 0 m = m := fun m => by
        induction m with
        | zero => exact fun _ => rfl
        | succ m ihm =>
          intro hh
          show sm _ 0 m + wV w1 (vw (Y (0 + m))) = m + 1
          rw [ihm (fun i hi => hh i (by omega)), Nat.zero_add, hh m (by omega)]
      have e2 : ∀ i, i < m → wV w1 (vw (Y i)) = 1 := fun i hi => by
        have := (LayN_iff.mp (hE i hi).2.2).2
        generalize vw (Y i) = u at this
        obtain z' | r | q' | l := u
        · exact this.elim
        · rfl
        · rfl
        · rfl
      rw [e1 m e2] at hW1
      omega
    have hqm : q = m := by omega
    subst hqm
    have hbT : bs b0 Y q ≤ b0 + T := by
      unfold lyW at hW
      unfold bs
      omega
    refine ⟨1, s, q, Y, by omega, fun f => ?_, Nat.le_refl _, fun _ _ => rfl, hD, hbT, lyF.rf⟩
    show mf_75_63 N (mf_75_L1 N f) (Int32.ofNat q) (Int32.ofNat (bs b0 Y q)) (Int32.ofNat q) s = _
    unfold mf_75_63
    rw [if_pos ((i32le (by omega) (by omega)).mpr (Nat.le_refl _))]
    rfl
  | succ d ih =>
    intro q s m A Y hd hq hE hD hW hW1
    have hm : m ≤ T1 := by
      unfold lyW at hW1
      have e1 : ∀ m, (∀ i, i < m → wV w1 (vw (Y i)) = 1) → sm (fun i => wV w1 (vw (Y i))) 0 m = m := fun m => by
        induction m with
        | zero => exact fun _ => rfl
        | succ m ihm =>
          intro hh
          show sm _ 0 m + wV w1 (vw (Y (0 + m))) = m + 1
          rw [ihm (fun i hi => hh i (by omega)), Nat.zero_add, hh m (by omega)]
      have e2 : ∀ i, i < m → wV w1 (vw (Y i)) = 1 := fun i hi => by
        have := (LayN_iff.mp (hE i hi).2.2).2
        generalize vw (Y i) = u at this
        obtain z' | r | q' | l := u
        · exact this.elim
        · rfl
        · rfl
        · rfl
      rw [e1 m e2] at hW1
      omega
    have hbT : bs b0 Y m ≤ b0 + T := by
      unfold lyW at hW
      unfold bs
      omega
    have hbq := bs_le (b0 := b0) (Y := Y) hq
    by_cases hqm : q = m
    · subst hqm
      refine ⟨1, s, q, Y, by omega, fun f => ?_, Nat.le_refl _, fun _ _ => rfl, hD, hbT, lyF.rf⟩
      show mf_75_63 N (mf_75_L1 N f) (Int32.ofNat q) (Int32.ofNat (bs b0 Y q)) (Int32.ofNat q) s = _
      unfold mf_75_63
      rw [if_pos ((i32le (by omega) (by omega)).mpr (Nat.le_refl _))]
      rfl
    · obtain ⟨E1, E2, E3⟩ := hE q (by omega)
      obtain ⟨L1, L2⟩ := LayN_iff.mp E3
      obtain ⟨k1, k2, k3⟩ := L2.kd
      have hax : A q + wV wn (vw (Y q)) ≤ 166300 := by
        have := (hR _ (L1 (A q + wV wn (vw (Y q)) - 1) (by omega) (by omega))).1
        omega
      have hb1 := bs_le (b0 := b0) (Y := Y) (i := q + 1) (j := m) (by omega)
      rw [bs_s] at hb1
      have hb0b : b0 ≤ bs b0 Y q := Nat.le_add_right _ _
      obtain ⟨s1, hs1⟩ : ∃ s1, s1 = mA s 47 (cpz (s.2.2.1 47) (A q) (bs b0 Y q) 0 (wV wn (vw (Y q)))) := ⟨_, rfl⟩
      have f47 : s1.2.2.1 47 = cpz (s.2.2.1 47) (A q) (bs b0 Y q) 0 (wV wn (vw (Y q))) := by rw [hs1]; rfl
      have fo : ∀ k, k ≠ 47 → s1.2.2.1 k = s.2.2.1 k := fun k hk => by rw [hs1]; exact if_neg hk
      have hup : ∀ y, ¬ (bs b0 Y q ≤ y ∧ y < bs b0 Y q + wV wn (vw (Y q))) → s1.2.2.1 47 y = s.2.2.1 47 y := fun y hy => by
        rw [f47]
        exact if_neg hy
      have hsR : ∀ y, R y → s1.2.2.1 47 y = s.2.2.1 47 y := fun y hy => hup y (fun e => (hR y hy).2 ⟨by omega, by omega⟩)
      have hdis : A q + wV wn (vw (Y q)) ≤ bs b0 Y q ∨ bs b0 Y q + wV wn (vw (Y q)) ≤ A q := by
        by_cases c1 : A q ≤ bs b0 Y q
        · by_cases c2 : bs b0 Y q < A q + wV wn (vw (Y q))
          · exact absurd ⟨by omega, by omega⟩ (hR _ (L1 (bs b0 Y q) c1 c2)).2
          · exact Or.inl (by omega)
        · by_cases c2 : A q < bs b0 Y q + wV wn (vw (Y q))
          · exact absurd ⟨by omega, by omega⟩ (hR _ (L1 (A q) (Nat.le_refl _) (by omega))).2
          · exact Or.inr (by omega)
      have hsplit : ∀ w T', lyW w T' q m 0 Y → lyW w T' (q + 1) m (((kdsV (vw (Y q))).drop 0).map (TN w)).sum Y := fun w T' h => by
        unfold lyW at h ⊢
        rw [show m - q = (m - (q + 1)) + 1 by omega, sm_hd] at h
        have e : rst w (Y q) = (((kdsV (vw (Y q))).drop 0).map (TN w)).sum := by rw [List.drop_zero]; rfl
        rw [← e]
        have h : sm (fun i => wV w (vw (Y i))) 0 m + (rst w (Y q) + sm (fun i => rst w (Y i)) (q + 1) (m - (q + 1)) + 0) ≤ T' := h
        omega
      obtain ⟨s2, m2, A2, Y2, g1, g2, g3, g4, g5, g6, g7, g8⟩ := lay_in (N := N) (R := R) (b0 := b0) (x6 := Int32.ofNat q) (q := q) (a := A q) (b := bs b0 Y q) (v := vw (Y q)) hR hb0 hT hT1 (kdsV (vw (Y q))).length 0 s1 m A Y (Nat.zero_add _) (fun j hj => by
        obtain ⟨F1, F2, F3⟩ := hE j hj
        exact ⟨by rw [fo 58 (by decide)]; exact F1, by rw [fo 59 (by decide)]; exact F2, F3.congr (fun _ z => z) hsR⟩) (by omega) rfl rfl rfl (fun y hy _ => by
        rw [hsR (A q + y) (L1 (A q + y) (by omega) (by omega)), f47]
        unfold cpz
        rw [if_pos (show bs b0 Y q + 0 ≤ bs b0 Y q + y ∧ bs b0 Y q + y < bs b0 Y q + wV wn (vw (Y q)) from ⟨by omega, by omega⟩), show A q + (bs b0 Y q + y - bs b0 Y q) = A q + y by omega]) (fun j hj hji => absurd hji (Nat.not_lt_zero _)) (fun i' hi' => (hD i' hi').congr (fun y y1 y2 => hup y (fun e => by
          have := bs_le (b0 := b0) (Y := Y) (i := i' + 1) (j := q) (by omega)
          rw [bs_s] at this
          omega)) (fun _ _ z => z)) (hsplit _ _ hW) (hsplit _ _ hW1)
      have hY2 : bs b0 Y2 (q + 1) = bs b0 Y q + wV wn (vw (Y q)) := by
        rw [bs_congr (Y := Y) (fun j hj => g3 j (by omega)), bs_s]
      obtain ⟨c, s3, m3, Y3, r1, r2, r3, r4, r5, r6, r7⟩ := ih (q + 1) s2 m2 A2 Y2 (by omega) (by omega) g4 g5 g6 g7
      have hk2 : (kdsV (vw (Y q))).length ≤ wV wn (vw (Y q)) := by
        by_cases z : 0 < (kdsV (vw (Y q))).length
        · have := (ofs_lt (v := vw (Y q)) z).2
          omega
        · omega
      have hk3 : (kdsV (vw (Y q))).length + 2 ≤ wV wn (vw (Y q)) := by
        by_cases z : 0 < (kdsV (vw (Y q))).length
        · exact (ofs_lt (v := vw (Y q)) z).2
        · omega
      refine ⟨c + ((kdsV (vw (Y q))).length + 1) + (wV wn (vw (Y q)) + 1) + 1, s3, m3, Y3, ?_, fun f => ?_, by omega, fun i hi => (r4 i (by omega)).trans (g3 i hi), r5, r6, lyF.tr ⟨⟨fun _ _ => by rw [hs1]; rfl, fun _ _ => by rw [hs1]; rfl, fun k hk => fo k (fun z => hk (Or.inl z)), fun _ _ => by rw [hs1]; rfl⟩, fun y hy => hup y (fun e => hy ⟨by omega, by omega⟩)⟩ (g8.tr r7)⟩
      · rw [hY2] at r1
        omega
      · show mf_75_63 N (mf_75_L1 N (f + (c + ((kdsV (vw (Y q))).length + 1) + (wV wn (vw (Y q)) + 1)))) (Int32.ofNat m) (Int32.ofNat (bs b0 Y m)) (Int32.ofNat q) s = _
        unfold mf_75_63
        rw [if_neg (fun z => by have := (i32le (by omega) (by omega)).mp z; omega)]
        unfold mf_75_70
        rw [if_pos (gd rfl (by omega) (by decide)), if_pos (gd rfl (by omega) (by decide)), i32c (m := q) (by omega), E1, E2, r_nums L2 hax]
        have e1 := lay_copy (N := N) (x4 := Int32.ofNat m) (x5 := Int32.ofNat (bs b0 Y m)) (x6 := Int32.ofNat q) (f := f + (c + ((kdsV (vw (Y q))).length + 1))) hax (b := bs b0 Y q) (by omega) hdis (wV wn (vw (Y q))) 0 s (Nat.zero_add _)
        have e2 := g1 (f + c)
        have e3 := r2 f
        rw [show Int32.ofNat q + 1 = Int32.ofNat (q + 1) from i32al] at e2
        rw [← hs1, show f + (c + ((kdsV (vw (Y q))).length + 1)) = f + c + ((kdsV (vw (Y q))).length + 1) by omega] at e1
        have e4 := e1.trans (e2.trans e3)
        rw [show f + c + ((kdsV (vw (Y q))).length + 1) + (wV wn (vw (Y q)) + 1) = f + (c + ((kdsV (vw (Y q))).length + 1) + (wV wn (vw (Y q)) + 1)) by omega] at e4
        exact e4
/-- what is all done lies there -/
theorem lay_end {m T : Nat} {Y : Nat → Nod} {s : mS} (hD : lyD b0 m m Y s) (hb : bs b0 Y m ≤ b0 + T) (hT : T ≤ 2410) : ∀ (k i : Nat), m ≤ i + k → i < m → LayN (s.2.2.1 47) (fun y => b0 ≤ y ∧ y < b0 + 2410) (bs b0 Y i) (Y i) := by
  intro k
  induction k with
  | zero =>
    intro i h1 h2
    omega
  | succ k ih =>
    intro i h1 h2
    refine LayN_iff.mpr ⟨fun y y1 y2 => ?_, (hD i h2).congr (fun _ _ _ => rfl) (fun c y ⟨i', p1, p2, p3, p4⟩ => ?_)⟩
    · have := bs_le (b0 := b0) (Y := Y) (i := i + 1) (j := m) (by omega)
      rw [bs_s] at this
      have : b0 ≤ bs b0 Y i := Nat.le_add_right _ _
      exact ⟨by omega, by omega⟩
    · rw [← p3, ← p4]
      exact ih i' (by omega) p2
/-- lay, of what is no INT -/
theorem r_lay {x : Nod} {a : Nat} {s : mS} (hN : 8000 ≤ N) (hR : ∀ y, R y → y < 166300 ∧ ¬ (b0 ≤ y ∧ y < b0 + 2410)) (hb0 : b0 + 2410 ≤ 166300) (hx : bulk x.1 x.2 ≤ 600) (H : LayN (s.2.2.1 47) R a x) : ∃ s', mf_75 N 1 (Int32.ofNat a) (Int32.ofNat b0) s = some (s', none) ∧ LayN (s'.2.2.1 47) (fun y => b0 ≤ y ∧ y < b0 + 2410) b0 x ∧ lyF b0 s s' := by
  have hT := TT_wn x.1 x.2
  have hT1 := TT_w1 x.1 x.2
  obtain ⟨L1, L2⟩ := LayN_iff.mp H
  obtain ⟨k1, k2, k3⟩ := L2.kd
  have hax : a + wV wn (vw x) ≤ 166300 := by
    have := (hR _ (L1 (a + wV wn (vw x) - 1) (by omega) (by omega))).1
    omega
  obtain ⟨s1, hs1⟩ : ∃ s1, s1 = mA (mA s 58 (upd (s.2.2.1 58) 0 (Int32.ofNat a))) 59 (upd (s.2.2.1 59) 0 (Int32.ofNat b0)) := ⟨_, rfl⟩
  have f47 : s1.2.2.1 47 = s.2.2.1 47 := by rw [hs1]; rfl
  have hW : ∀ w, lyW w (TN w x) 0 1 0 (fun _ => x) := fun w => by
    unfold lyW
    show 0 + wV w (vw x) + (0 + rst w x + 0) ≤ _
    rw [TN_eq]
    show _ ≤ wV w (vw x) + rst w x
    omega
  obtain ⟨c, s', m', Y', r1, r2, r3, r4, r5, r6, r7⟩ := lay_all (N := N) (R := R) (b0 := b0) (T := TN wn x) (T1 := TN w1 x) hR hb0 (by show TT wn x.1 x.2 ≤ _; omega) (by show TT w1 x.1 x.2 ≤ _; omega) (TN w1 x) 0 s1 1 (fun _ => a) (fun _ => x) (by omega) (by omega) (fun i hi => by
    have : i = 0 := by omega
    subst this
    refine ⟨?_, ?_, by rw [f47]; exact H⟩
    · rw [hs1]
      rfl
    · rw [hs1]
      rfl) (fun i hi => absurd hi (Nat.not_lt_zero _)) (hW wn) (hW w1)
  refine ⟨s', ?_, ?_, lyF.tr ⟨⟨fun _ _ => by rw [hs1]; rfl, fun _ _ => by rw [hs1]; rfl, fun k hk => ?_, fun _ _ => by rw [hs1]; rfl⟩, fun y hy => by rw [f47]⟩ r7⟩
  · unfold mf_75 mf_75_0
    rw [if_pos (by decide)]
    unfold mf_75_13
    rw [if_pos (by decide)]
    unfold mf_75_34
    rw [r_nums L2 hax]
    show mf_75_43 N (Int32.ofNat a) (Int32.ofNat b0) 1 (Int32.ofNat b0) (Int32.ofNat (wV wn (vw x))) s = _
    unfold mf_75_43
    rw [if_pos (show ¬ ((0 : Int32) < 0 ∨ 700 ≤ Int32.toNatClampNeg (0 : Int32)) by decide), if_pos (show ¬ ((0 : Int32) < 0 ∨ 700 ≤ Int32.toNatClampNeg (0 : Int32)) by decide), i32add]
    have hc : c ≤ 8000 := by
      have : TN wn x ≤ 2400 := by show TT wn x.1 x.2 ≤ _; omega
      omega
    have e := r2 (N - c)
    rw [show N - c + c = N by omega] at e
    rw [show b0 + wV wn (vw x) = bs b0 (fun _ => x) 1 from (by rw [bs_s]; rfl)]
    show mf_75_L1 N N 0 0 (Int32.ofNat 1) _ (Int32.ofNat 0) 0 0 0 (mA (mA s 58 (upd (s.2.2.1 58) 0 (Int32.ofNat a))) 59 (upd (s.2.2.1 59) 0 (Int32.ofNat b0))) = _
    rw [← hs1]
    exact e
  · have e := lay_end r5 r6 (by show TT wn x.1 x.2 ≤ _; omega) m' 0 (by omega) (by omega)
    rw [r4 0 (by omega)] at e
    exact e
  · rw [hs1]
    show (if k = 59 then _ else if k = 58 then _ else _) = _
    rw [if_neg (fun z => hk (Or.inr (Or.inr z))), if_neg (fun z => hk (Or.inr (Or.inl z)))]
end LB
