/-! ===== PURE: same (the reference's): ROWS ===== -/
section SY
variable {N : Nat} {s : mS} {a b : Nat} {P P' : Nat → Nod → Prop} {r r' : List Int32}
theorem r_sr0 (f : Nat) (x1 x2 x4 : Int32) : mf_344_L1 N (f + 1) 0 x1 x2 0 x4 s = some (s, some (.int 0)) := by
  show mf_344_22 N (mf_344_L1 N f) x1 x2 0 x4 s = _
  unfold mf_344_22
  rw [if_pos rfl]
  rfl
theorem r_srL (H : Wy (s.2.2.1 47) a P (vR r)) (ha : a + wV wn (vR r) ≤ 166300) (H' : Wy (s.2.2.1 47) b P' (vR r')) (hb : b + wV wn (vR r') ≤ 166300) (hl : r.length = r'.length) : ∀ (d i f : Nat), i + d = r.length → mf_344_L1 N (f + (d + 1)) 0 (Int32.ofNat a) (Int32.ofNat b) 1 (Int32.ofNat i) s = some (s, some (.int (if r.drop i = r'.drop i then 1 else 0))) := by
  have hw : a + (2 + r.length) ≤ 166300 := ha
  have hw' : b + (2 + r'.length) ≤ 166300 := hb
  have h22 : ∀ rc i, mf_344_22 N rc (Int32.ofNat a) (Int32.ofNat b) 1 (Int32.ofNat i) s = mf_344_33 N rc (Int32.ofNat a) (Int32.ofNat b) 1 (Int32.ofNat i) (Int32.ofNat i) (Int32.ofNat r.length) s := fun rc i => by
    unfold mf_344_22
    rw [if_neg (by decide)]
    unfold mf_344_26
    rw [r_size H ha]
    rfl
  intro d
  induction d with
  | zero =>
    intro i f hi
    have hi : i = r.length := hi
    subst hi
    rw [List.drop_length, hl, List.drop_length, if_pos rfl]
    show mf_344_22 N (mf_344_L1 N f) (Int32.ofNat a) (Int32.ofNat b) 1 (Int32.ofNat r'.length) s = _
    rw [h22]
    unfold mf_344_33
    rw [if_pos ((i32le (by omega) (by omega)).mpr (by omega))]
    rfl
  | succ d ih =>
    intro i f hi
    have hi' : i < r.length := by omega
    show mf_344_22 N (mf_344_L1 N (f + (d + 1))) (Int32.ofNat a) (Int32.ofNat b) 1 (Int32.ofNat i) s = _
    rw [h22]
    unfold mf_344_33
    rw [if_neg (fun q => by have := (i32le (by omega) (by omega)).mp q; omega)]
    unfold mf_344_36
    have e1 : Int32.ofNat a + 2 + Int32.ofNat i = Int32.ofNat (a + 2 + i) := by
      rw [show Int32.ofNat a + 2 = Int32.ofNat (a + 2) from i32al, i32add]
    have e2 : Int32.ofNat b + 2 + Int32.ofNat i = Int32.ofNat (b + 2 + i) := by
      rw [show Int32.ofNat b + 2 = Int32.ofNat (b + 2) from i32al, i32add]
    rw [if_pos (gd e1 (by omega) (by decide)), if_pos (gd e2 (by omega) (by decide)), cl e1 (by omega), cl e2 (by omega), H.2.2 i hi', H'.2.2 i (by omega), List.drop_eq_getElem_cons hi', List.drop_eq_getElem_cons (show i < r'.length by omega)]
    by_cases e : r[i] = r'[i]'(by omega)
    · rw [if_neg (fun q => q e)]
      show mf_344_L1 N (f + (d + 1)) 0 (Int32.ofNat a) (Int32.ofNat b) 1 (Int32.ofNat i + 1) s = _
      rw [show Int32.ofNat i + 1 = Int32.ofNat (i + 1) from i32al, ih (i + 1) f (by omega), e]
      by_cases c : r.drop (i + 1) = r'.drop (i + 1)
      · rw [if_pos c, if_pos (by rw [c])]
      · rw [if_neg c, if_neg (fun q => c (List.cons.inj q).2)]
    · rw [if_pos e, if_neg (fun q => e (List.cons.inj q).1)]
      exact r_sr0 (N := N) (s := s) (f + d) (Int32.ofNat a) (Int32.ofNat b) (Int32.ofNat i + 1)
theorem r_sameRows (hN : 170000 ≤ N) (H : Wy (s.2.2.1 47) a P (vR r)) (ha : a + wV wn (vR r) ≤ 166300) (H' : Wy (s.2.2.1 47) b P' (vR r')) (hb : b + wV wn (vR r') ≤ 166300) : mf_344 N (Int32.ofNat a) (Int32.ofNat b) s = some (s, some (.int (if r = r' then 1 else 0))) := by
  have hw : a + (2 + r.length) ≤ 166300 := ha
  have hw' : b + (2 + r'.length) ≤ 166300 := hb
  unfold mf_344 mf_344_0
  rw [r_size H ha]
  show mf_344_5 N (Int32.ofNat a) (Int32.ofNat b) (Int32.ofNat r.length) s = _
  unfold mf_344_5
  rw [r_size H' hb]
  show mf_344_10 N (Int32.ofNat a) (Int32.ofNat b) (Int32.ofNat r.length) (Int32.ofNat r'.length) s = _
  unfold mf_344_10
  by_cases c : r.length = r'.length
  · rw [if_neg (fun q => q (by rw [c]))]
    have e := r_srL (N := N) H ha H' hb c r.length 0 (N - (r.length + 1)) (Nat.zero_add _)
    rw [show N - (r.length + 1) + (r.length + 1) = N by omega, List.drop_zero, List.drop_zero] at e
    exact e
  · rw [if_pos (fun q => c ((i32eq (by omega) (by omega)).mp q)), if_neg (fun q => c (by rw [q]))]
    have e := r_sr0 (N := N) (s := s) (N - 1) (Int32.ofNat a) (Int32.ofNat b) 0
    rw [show N - 1 + 1 = N by omega] at e
    exact e
end SY
