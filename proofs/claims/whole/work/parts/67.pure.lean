/-! ===== PURE: the class's THINGS: a long, kind above, INT or address below ===== -/
def tg (k a : Int32) : Int64 := ((Int32.toInt64 k) <<< (Int32.toInt64 32 &&& 63)) ||| ((Int32.toInt64 a) &&& 4294967295)
theorem tg_bv (k a : Int32) : (tg k a).toBitVec = ((k.toBitVec.signExtend 64) <<< 32) ||| ((a.toBitVec.signExtend 64) &&& 4294967295#64) := by
  unfold tg
  rw [show (Int32.toInt64 32 &&& 63) = (32 : Int64) from rfl, Int64.toBitVec_or, Int64.toBitVec_and, Int64.toBitVec_shiftLeft, Int32.toBitVec_toInt64, Int32.toBitVec_toInt64]
  rfl
theorem msk : ∀ i : Fin 32, (4294967295#64).getLsbD (32 + i.1) = false ∧ (4294967295#64).getLsbD i.1 = true := by decide
theorem tg_sh {k a : Int32} : tg k a >>> (Int32.toInt64 32 &&& 63) = Int32.toInt64 k := by
  apply Int64.toBitVec_inj.mp
  rw [show (Int32.toInt64 32 &&& 63) = (32 : Int64) from rfl, Int64.toBitVec_shiftRight, tg_bv, show ((32 : Int64).toBitVec.smod 64) = 32#64 from rfl, Int32.toBitVec_toInt64]
  apply BitVec.eq_of_getLsbD_eq
  intro i hi
  by_cases c : i < 32
  · have h := (msk ⟨i, c⟩).1
    dsimp only at h
    simp only [BitVec.sshiftRight', BitVec.getLsbD_sshiftRight, BitVec.getLsbD_or, BitVec.getLsbD_and, BitVec.getLsbD_shiftLeft, BitVec.getLsbD_signExtend, hi, c, h, show 32 + i < 64 by omega, show ¬ 64 ≤ i by omega, show ¬ 32 + i < 32 by omega, show 32 + i - 32 = i by omega, show i < 64 by omega, BitVec.toNat_ofNat, Nat.reducePow, Nat.reduceMod, decide_true, decide_false, Bool.true_and, Bool.not_false, Bool.and_false, Bool.or_false, if_true, if_false]
  · have h31 : (4294967295#64).getLsbD 63 = false := by decide
    simp only [BitVec.sshiftRight', BitVec.getLsbD_sshiftRight, BitVec.msb_eq_getLsbD_last, BitVec.getLsbD_or, BitVec.getLsbD_and, BitVec.getLsbD_shiftLeft, BitVec.getLsbD_signExtend, hi, c, h31, show ¬ 32 + i < 64 by omega, show ¬ 64 ≤ i by omega, BitVec.toNat_ofNat, Nat.reducePow, Nat.reduceMod, Nat.reduceSub, Nat.reduceLT, decide_true, decide_false, Bool.true_and, Bool.not_false, Bool.and_false, Bool.or_false, if_true, if_false]
theorem i64_32 (x : Int32) : Int64.toInt32 (Int32.toInt64 x) = x := Int32.toInt32_toInt64 x
theorem tg_kind (k a : Int32) : Int64.toInt32 (tg k a >>> (Int32.toInt64 32 &&& 63)) = k := by rw [tg_sh, i64_32]
theorem tg_low (k a : Int32) : Int64.toInt32 (tg k a) = a := by
  apply Int32.toBitVec_inj.mp
  rw [Int64.toBitVec_toInt32, tg_bv]
  apply BitVec.eq_of_getLsbD_eq
  intro i hi
  have h := (msk ⟨i, hi⟩).2
  dsimp only at h
  simp only [BitVec.getLsbD_or, BitVec.getLsbD_and, BitVec.getLsbD_shiftLeft, BitVec.getLsbD_signExtend, hi, h, show i < 64 by omega, decide_true, decide_false, Bool.true_and, Bool.not_true, Bool.false_and, Bool.and_true, Bool.and_false, Bool.false_or, if_true, if_false]
theorem tg_inj {k a k' a' : Int32} (h : tg k a = tg k' a') : k = k' ∧ a = a' := ⟨by rw [← tg_kind k a, h, tg_kind], by rw [← tg_low k a, h, tg_low]⟩

theorem i64_inj {x y : Int32} (h : Int32.toInt64 x = Int32.toInt64 y) : x = y := by rw [← i64_32 x, h, i64_32]
/-- (as the code has them) -/
theorem tg_k' {k a : Int32} : Int64.toInt32 (tg k a >>> (Int32.toInt64 (Int32.ofNat 32) &&& 63)) = k := tg_kind k a
theorem tg_s' {k a : Int32} : tg k a >>> (Int32.toInt64 (Int32.ofNat 32) &&& 63) = Int32.toInt64 k := tg_sh
theorem lg_0 {k : Int32} : (lg_cmp (Int32.toInt64 k) 0 = Int32.ofNat 0) = (k = Int32.ofNat 0) := by
  apply propext
  constructor
  · intro h
    unfold lg_cmp at h
    by_cases a : Int32.toInt64 k > 0
    · rw [if_pos a] at h
      exact absurd h (by decide)
    · rw [if_neg a] at h
      by_cases b : Int32.toInt64 k = 0
      · exact i64_inj (b.trans rfl)
      · rw [if_neg b] at h
        exact absurd h (by decide)
  · intro h
    rw [h]
    rfl
theorem lg_3 {k : Int32} : (lg_cmp (Int32.toInt64 k) 3 = Int32.ofNat 0) = (k = Int32.ofNat 3) := by
  apply propext
  constructor
  · intro h
    unfold lg_cmp at h
    by_cases a : Int32.toInt64 k > 3
    · rw [if_pos a] at h
      exact absurd h (by decide)
    · rw [if_neg a] at h
      by_cases b : Int32.toInt64 k = 3
      · exact i64_inj (b.trans rfl)
      · rw [if_neg b] at h
        exact absurd h (by decide)
  · intro h
    rw [h]
    rfl
def cRow (g : Nat → Int64) (u a : Nat) (r : List Int32) : Prop := a + 1 + r.length ≤ u ∧ g a = Int32.toInt64 (Int32.ofNat r.length) ∧ ∀ i (hi : i < r.length), g (a + 1 + i) = Int32.toInt64 r[i]
def cTab (g : Nat → Int64) (u a : Nat) (q : List (List Int32)) : Prop := a + 2 + q.length ≤ u ∧ g a = Int32.toInt64 (Int32.ofNat q.length) ∧ g (a + 1) = Int32.toInt64 (Int32.ofNat (q.map List.length).sum) ∧ ∀ i (hi : i < q.length), ∃ b : Nat, g (a + 2 + i) = Int32.toInt64 (Int32.ofNat b) ∧ cRow g u b q[i]
def cPl (g : Nat → Int64) (u : Nat) (v : Int64) : Pl → Prop
  | .inl z => v = tg 0 z
  | .inr (.inl r) => ∃ a : Nat, v = tg 1 (Int32.ofNat a) ∧ cRow g u a r
  | .inr (.inr q) => ∃ a : Nat, v = tg 2 (Int32.ofNat a) ∧ cTab g u a q
def cTh : (n : Nat) → (Nat → Int64) → Nat → Int64 → Th n → Prop
  | 0, g, u, v, p => cPl g u v p
  | n + 1, g, u, v, x => match (show Pl ⊕ List (Th n) from x) with
    | .inl p => cPl g u v p
    | .inr l => ∃ a : Nat, v = tg 3 (Int32.ofNat a) ∧ a + 3 + l.length ≤ u ∧ g a = Int32.toInt64 (Int32.ofNat l.length) ∧ g (a + 1) = Int32.toInt64 (Int32.ofNat (1 + (l.map (bulk n)).sum)) ∧ g (a + 2) = Int32.toInt64 (Int32.ofNat (1 + mxL (l.map (dT n)))) ∧ ∀ i (hi : i < l.length), cTh n g u (g (a + 3 + i)) l[i]
def cN (g : Nat → Int64) (u : Nat) (v : Int64) (x : Nod) : Prop := cTh x.1 g u v x.2
def cV (g : Nat → Int64) (u : Nat) (v : Int64) : Vw → Prop
  | .inl z => v = tg 0 z
  | .inr (.inl r) => ∃ a : Nat, v = tg 1 (Int32.ofNat a) ∧ cRow g u a r
  | .inr (.inr (.inl q)) => ∃ a : Nat, v = tg 2 (Int32.ofNat a) ∧ cTab g u a q
  | .inr (.inr (.inr ⟨n, l⟩)) => ∃ a : Nat, v = tg 3 (Int32.ofNat a) ∧ a + 3 + l.length ≤ u ∧ g a = Int32.toInt64 (Int32.ofNat l.length) ∧ g (a + 1) = Int32.toInt64 (Int32.ofNat (1 + (l.map (bulk n)).sum)) ∧ g (a + 2) = Int32.toInt64 (Int32.ofNat (1 + mxL (l.map (dT n)))) ∧ ∀ i (hi : i < l.length), cN g u (g (a + 3 + i)) ⟨n, l[i]⟩
theorem cN_iff {g : Nat → Int64} {u : Nat} {v : Int64} : ∀ {x : Nod}, cN g u v x ↔ cV g u v (vw x)
  | ⟨0, p⟩ => by
    obtain z | r | q := p <;> exact Iff.rfl
  | ⟨n + 1, x⟩ => by
    obtain p | l := x
    · obtain z | r | q := p <;> exact Iff.rfl
    · exact Iff.rfl
section CHM
variable {g g' : Nat → Int64} {u u' : Nat}
theorem cRow.mono (hg : ∀ y, y < u → g' y = g y) (hu : u ≤ u') {a : Nat} {r : List Int32} (h : cRow g u a r) : cRow g' u' a r := by
  obtain ⟨h1, h2, h3⟩ := h
  exact ⟨by omega, by rw [hg _ (by omega)]; exact h2, fun i hi => by rw [hg _ (by omega)]; exact h3 i hi⟩
theorem cTab.mono (hg : ∀ y, y < u → g' y = g y) (hu : u ≤ u') {a : Nat} {q : List (List Int32)} (h : cTab g u a q) : cTab g' u' a q := by
  obtain ⟨h1, h2, h3, h4⟩ := h
  refine ⟨by omega, by rw [hg _ (by omega)]; exact h2, by rw [hg _ (by omega)]; exact h3, fun i hi => ?_⟩
  obtain ⟨b, b1, b2⟩ := h4 i hi
  exact ⟨b, by rw [hg _ (by omega)]; exact b1, b2.mono hg hu⟩
theorem cPl.mono (hg : ∀ y, y < u → g' y = g y) (hu : u ≤ u') {v : Int64} {p : Pl} (h : cPl g u v p) : cPl g' u' v p := by
  obtain z | r | q := p
  · exact h
  · obtain ⟨a, h1, h2⟩ := h
    exact ⟨a, h1, h2.mono hg hu⟩
  · obtain ⟨a, h1, h2⟩ := h
    exact ⟨a, h1, h2.mono hg hu⟩
theorem cTh.mono (hg : ∀ y, y < u → g' y = g y) (hu : u ≤ u') : ∀ (n : Nat) {v : Int64} {x : Th n}, cTh n g u v x → cTh n g' u' v x
  | 0, v, p, h => cPl.mono hg hu h
  | n + 1, v, x, h => by
    obtain p | l := x
    · exact cPl.mono (p := p) hg hu h
    · obtain ⟨a, h1, h2, h3, h4, h5, h6⟩ := h
      exact ⟨a, h1, by omega, by rw [hg _ (by omega)]; exact h3, by rw [hg _ (by omega)]; exact h4, by rw [hg _ (by omega)]; exact h5, fun i hi => by rw [hg _ (by omega)]; exact cTh.mono hg hu n (h6 i hi)⟩
theorem cN.mono (hg : ∀ y, y < u → g' y = g y) (hu : u ≤ u') {v : Int64} {x : Nod} (h : cN g u v x) : cN g' u' v x := cTh.mono hg hu x.1 h
theorem cs_c {m : Nat} {x : Nod} (h : dN x ≤ m) : ∀ {v : Int64}, cN g u v x → cN g u v ⟨m, cs m x⟩ := by
  refine (cs_ind (fun x y => bulkN x = bulkN y ∧ dN x = dN y ∧ ∀ v, cN g u v x → cN g u v y) (fun x y k e => ⟨by rw [vw_bulk x, vw_bulk y, e], by rw [dN_0 k, dN_0 (x := y) (by rw [e]; exact k)], fun v w => ?_⟩) (fun n m l l' x y hl hi e e' => ?_) m x h).2.2 _
  · rw [cN_iff] at w ⊢
    rw [e]
    exact w
  · have hb := map_eq (f := bulk n) (g := bulk m) hl (fun i a b => (hi i a b).1)
    have hd := map_eq (f := dT n) (g := dT m) hl (fun i a b => (hi i a b).2.1)
    refine ⟨?_, ?_, fun v w => ?_⟩
    · rw [vw_bulk x, vw_bulk y, e, e']
      show 1 + (l.map (bulk n)).sum = 1 + (l'.map (bulk m)).sum
      rw [hb]
    · rw [dN_P e, dN_P e', hd]
    · rw [cN_iff] at w ⊢
      rw [e] at w
      rw [e']
      obtain ⟨a, h1, h2, h3, h4, h5, h6⟩ := w
      exact ⟨a, h1, by omega, by rw [hl]; exact h3, by rw [← hb]; exact h4, by rw [← hd]; exact h5, fun i hi' => (hi i (by omega) hi').2.2 _ (h6 i (by omega))⟩
end CHM
/-- how often an array has been made longer, and what that took -/
def lgc (L : Nat) : Nat := Nat.min 19 (Nat.log2 L)
def pot (t : cS) : Nat := lgc (kB t 43).1 + lgc (kB t 44).1 + (kA t 46).1 / 64 + lgc (kB t 52).1 + lgc (kA t 55).1 + lgc (kA t 56).1 + lgc (kA t 57).1
def poq (t : cS) : Nat := 2 * (kB t 43).1 + 2 * (kB t 44).1 + 17 * (kA t 46).1 + 2 * (kB t 52).1 + 2 * (kA t 55).1 + 2 * (kA t 56).1 + 2 * (kA t 57).1
/-- room is left -/
def rmK (t : cS) : Prop := kN t + 200 < zz_out + pot t ∧ (kA t 46).1 ≤ 600
theorem lgc_le (L : Nat) : lgc L ≤ 19 := Nat.min_le_left _ _
theorem rmK.k {t : cS} (h : rmK t) : kN t + 70 < zz_out := by
  obtain ⟨h1, h2⟩ := h
  unfold pot at h1
  have a1 := lgc_le (kB t 43).1
  have a2 := lgc_le (kB t 44).1
  have a3 := lgc_le (kB t 52).1
  have a4 := lgc_le (kA t 55).1
  have a5 := lgc_le (kA t 56).1
  have a6 := lgc_le (kA t 57).1
  omega
/-- the class's heap: u cells used, w parts gathered -/
def cHp (t : cS) (u w : Nat) : Prop := kI t 42 1 = Int32.ofNat u ∧ kI t 42 3 = Int32.ofNat w ∧ u ≤ (kB t 43).1 ∧ w ≤ (kB t 44).1 ∧ 1 ≤ (kB t 44).1 ∧ 1 ≤ (kB t 43).1 ∧ (kB t 43).1 < 350000 ∧ (kB t 44).1 < 130000 ∧ rmK t
/-- what changes on the heap leave, and the room they take -/
def hfr (t t' : cS) : Prop := (∀ k f, ¬ (k = 42 ∧ (f = 1 ∨ f = 3)) → kI t' k f = kI t k f) ∧ kL t' = kL t ∧ kP t' = kP t ∧ (∀ k, k ≠ 43 → k ≠ 44 → k ≠ 111 → kA t' k = kA t k ∧ kB t' k = kB t k ∧ kD t' k = kD t k) ∧ kM t' = kM t ∧ kH t' = kH t ∧ kN t ≤ kN t' ∧ kN t' + pot t ≤ kN t + pot t' ∧ kQ t' + poq t ≤ kQ t + poq t'
theorem hfr.rf {t : cS} : hfr t t := ⟨fun _ _ _ => rfl, rfl, rfl, fun _ _ _ _ => ⟨rfl, rfl, rfl⟩, rfl, rfl, Nat.le_refl _, Nat.le_refl _, Nat.le_refl _⟩
theorem hfr.tr {t t1 t2 : cS} (h : hfr t t1) (g : hfr t1 t2) : hfr t t2 := by
  obtain ⟨a1, a2, a3, a4, a5, a6, a8, a9, a10⟩ := h
  obtain ⟨b1, b2, b3, b4, b5, b6, b8, b9, b10⟩ := g
  exact ⟨fun k f r => (b1 k f r).trans (a1 k f r), b2.trans a2, b3.trans a3, fun k r1 r2 r3 => ⟨(b4 k r1 r2 r3).1.trans (a4 k r1 r2 r3).1, (b4 k r1 r2 r3).2.1.trans (a4 k r1 r2 r3).2.1, (b4 k r1 r2 r3).2.2.trans (a4 k r1 r2 r3).2.2⟩, b5.trans a5, b6.trans a6, by omega, by omega, by omega⟩
