/-! ===== PURE: sum (the reference's) ===== -/
def mx (z : Int64) (l : List Int32) : Int64 := l.foldl (fun z v => (z * 1000003) ^^^ v.toInt64) z
theorem mx_app {z : Int64} {l l' : List Int32} : mx z (l ++ l') = mx (mx z l) l' := List.foldl_append ..
theorem mx_cons {z : Int64} {v : Int32} {l : List Int32} : mx z (v :: l) = mx (mx z [v]) l := rfl
theorem mL_mL {s : mS} {k : Nat} {x y : Int64} : mL (mL s k x) k y = mL s k y := by
  unfold mL
  refine Prod.ext rfl (Prod.ext (funext fun q => ?_) rfl)
  show (if q = k then y else if q = k then x else s.2.1 q) = if q = k then y else s.2.1 q
  by_cases e : q = k
  · rw [if_pos e, if_pos e]
  · rw [if_neg e, if_neg e, if_neg e]
theorem mL_id {s : mS} {k : Nat} : mL s k (s.2.1 k) = s := by
  unfold mL
  refine Prod.ext rfl (Prod.ext (funext fun q => ?_) rfl)
  show (if q = k then s.2.1 k else s.2.1 q) = s.2.1 q
  by_cases e : q = k
  · rw [if_pos e, e]
  · rw [if_neg e]
def serV : Vw → List Int32
  | .inl z => [0, z]
  | .inr (.inl r) => 1 :: serRow r
  | .inr (.inr (.inl q)) => 2 :: Int32.ofNat q.length :: q.flatMap serRow
  | .inr (.inr (.inr l)) => 3 :: Int32.ofNat l.2.length :: l.2.flatMap (ser l.1)
theorem vw_ser : ∀ x : Nod, ser x.1 x.2 = serV (vw x)
  | ⟨0, p⟩ => by
    obtain z | r | q := p <;> rfl
  | ⟨n + 1, x⟩ => by
    obtain p | l := x
    · obtain z | r | q := p <;> rfl
    · rfl
section SU
variable {N : Nat} {s : mS} {a : Nat} {P : Nat → Nod → Prop}
theorem r_mix {v : Int32} {z : Int64} : mf_87 N v (mL s 89 z) = some (mL s 89 (mx z [v]), none) := by
  unfold mf_87 mf_87_0
  rw [mL_mL]
  rfl
theorem r_mixRowL {r : List Int32} (H : Wy (s.2.2.1 47) a P (vR r)) (ha : a + wV wn (vR r) ≤ 166300) : ∀ (d i f : Nat) (z : Int64), i + d = r.length → mf_353_L1 N (f + (d + 1)) 0 (Int32.ofNat a) (Int32.ofNat i) (mL s 89 z) = some (mL s 89 (mx z (r.drop i)), none) := by
  have hw : a + (2 + r.length) ≤ 166300 := ha
  intro d
  induction d with
  | zero =>
    intro i f z hi
    have hi : i = r.length := hi
    subst hi
    rw [List.drop_length]
    show mf_353_11 N (mf_353_L1 N f) (Int32.ofNat a) (Int32.ofNat r.length) (mL s 89 z) = _
    unfold mf_353_11
    rw [r_size (s := mL s 89 z) H ha]
    show mf_353_17 N (mf_353_L1 N f) (Int32.ofNat a) (Int32.ofNat r.length) (Int32.ofNat r.length) (Int32.ofNat r.length) (mL s 89 z) = _
    unfold mf_353_17
    rw [if_pos ((i32le (by omega) (by omega)).mpr (Nat.le_refl _))]
    rfl
  | succ d ih =>
    intro i f z hi
    have hi' : i < r.length := by omega
    show mf_353_11 N (mf_353_L1 N (f + (d + 1))) (Int32.ofNat a) (Int32.ofNat i) (mL s 89 z) = _
    unfold mf_353_11
    rw [r_size (s := mL s 89 z) H ha]
    show mf_353_17 N (mf_353_L1 N (f + (d + 1))) (Int32.ofNat a) (Int32.ofNat i) (Int32.ofNat i) (Int32.ofNat r.length) (mL s 89 z) = _
    unfold mf_353_17
    rw [if_neg (fun q => by have := (i32le (by omega) (by omega)).mp q; omega)]
    unfold mf_353_20
    have e2 : Int32.ofNat a + 2 + Int32.ofNat i = Int32.ofNat (a + 2 + i) := by
      rw [show Int32.ofNat a + 2 = Int32.ofNat (a + 2) from i32al, i32add]
    have e3 : (mL s 89 z).2.2.1 47 (a + 2 + i) = r[i] := H.2.2 i hi'
    rw [if_pos (gd e2 (by omega) (by decide)), cl e2 (by omega), e3, r_mix]
    show mf_353_L1 N (f + (d + 1)) 0 (Int32.ofNat a) (Int32.ofNat i + 1) _ = _
    rw [show Int32.ofNat i + 1 = Int32.ofNat (i + 1) from i32al, ih (i + 1) f _ (by omega), List.drop_eq_getElem_cons hi']
    rfl
theorem r_mixRow (hN : 170000 ≤ N) {r : List Int32} {z : Int64} (H : Wy (s.2.2.1 47) a P (vR r)) (ha : a + wV wn (vR r) ≤ 166300) : mf_353 N (Int32.ofNat a) (mL s 89 z) = some (mL s 89 (mx z (serRow r)), none) := by
  have hw : a + (2 + r.length) ≤ 166300 := ha
  unfold mf_353 mf_353_0
  rw [r_size (s := mL s 89 z) H ha]
  show mo_bv (mf_87 N (Int32.ofNat r.length) (mL s 89 z)) _ = _
  rw [r_mix]
  have e := r_mixRowL (N := N) H ha r.length 0 (N - (r.length + 1)) (mx z [Int32.ofNat r.length]) (Nat.zero_add _)
  rw [show N - (r.length + 1) + (r.length + 1) = N by omega] at e
  exact e
theorem r_mixTabL {q : List (List Int32)} {R : Nat → Prop} (hN : 170000 ≤ N) (hR : ∀ y, R y → y < 166300) (H : Wy (s.2.2.1 47) a (LayN (s.2.2.1 47) R) (vT q)) (ha : a + wV wn (vT q) ≤ 166300) : ∀ (d i f : Nat) (z : Int64), i + d = q.length → mf_354_L1 N (f + (d + 1)) 0 (Int32.ofNat a) (Int32.ofNat i) (mL s 89 z) = some (mL s 89 (mx z ((q.drop i).flatMap serRow)), none) := by
  have hw : a + (2 + q.length) ≤ 166300 := ha
  intro d
  induction d with
  | zero =>
    intro i f z hi
    have hi : i = q.length := hi
    subst hi
    rw [List.drop_length]
    show mf_354_37 N (mf_354_L1 N f) (Int32.ofNat a) (Int32.ofNat q.length) (mL s 89 z) = _
    unfold mf_354_37
    rw [r_size (s := mL s 89 z) H ha]
    show mf_354_43 N (mf_354_L1 N f) (Int32.ofNat a) (Int32.ofNat q.length) (Int32.ofNat q.length) (Int32.ofNat q.length) (mL s 89 z) = _
    unfold mf_354_43
    rw [if_pos ((i32le (by omega) (by omega)).mpr (Nat.le_refl _))]
    rfl
  | succ d ih =>
    intro i f z hi
    have hi' : i < q.length := by omega
    show mf_354_37 N (mf_354_L1 N (f + (d + 1))) (Int32.ofNat a) (Int32.ofNat i) (mL s 89 z) = _
    unfold mf_354_37
    rw [r_size (s := mL s 89 z) H ha]
    show mf_354_43 N (mf_354_L1 N (f + (d + 1))) (Int32.ofNat a) (Int32.ofNat i) (Int32.ofNat i) (Int32.ofNat q.length) (mL s 89 z) = _
    unfold mf_354_43
    rw [if_neg (fun q => by have := (i32le (by omega) (by omega)).mp q; omega)]
    unfold mf_354_46
    obtain ⟨c, g1, g2⟩ := r_partT (N := N) (s := mL s 89 z) H ha hi'
    rw [g1]
    obtain ⟨L1, L2⟩ := LayN_iff.mp g2
    obtain ⟨-, -, k3⟩ := L2.kd
    have hc : c + wV wn (vw (nR q[i])) ≤ 166300 := by
      have := hR _ (L1 (c + wV wn (vw (nR q[i])) - 1) (by omega) (by omega))
      omega
    show mf_354_53 N (mf_354_L1 N (f + (d + 1))) (Int32.ofNat a) (Int32.ofNat i) (Int32.ofNat c) (mL s 89 z) = _
    unfold mf_354_53
    rw [r_mixRow (s := s) hN L2 hc]
    show mf_354_L1 N (f + (d + 1)) 0 (Int32.ofNat a) (Int32.ofNat i + 1) _ = _
    rw [show Int32.ofNat i + 1 = Int32.ofNat (i + 1) from i32al, ih (i + 1) f _ (by omega), List.drop_eq_getElem_cons hi', List.flatMap_cons, mx_app]
theorem r_mixPlain (hN : 170000 ≤ N) {R : Nat → Prop} (hR : ∀ y, R y → y < 166300) {v : Vw} {z : Int64} (hk : ¬ kdV v = 3) (H : Wy (s.2.2.1 47) a (LayN (s.2.2.1 47) R) v) (ha : a + wV wn v ≤ 166300) : mf_354 N (Int32.ofNat a) (mL s 89 z) = some (mL s 89 (mx z (serV v)), none) := by
  obtain ⟨k1, k2, k3⟩ := H.kd
  have e0 : ∀ z, (mL s 89 z).2.2.1 47 a = kdV v := fun _ => k1
  unfold mf_354 mf_354_0
  rw [if_pos (gd rfl (by omega) (by decide)), i32c (m := a) (by omega), e0, r_mix]
  show mf_354_10 N (Int32.ofNat a) (mL s 89 (mx z [kdV v])) = _
  unfold mf_354_10
  rw [if_pos (gd rfl (by omega) (by decide)), i32c (m := a) (by omega), e0]
  obtain y | r | q | ⟨n, l⟩ := v
  · exact H.elim
  · rw [if_neg (fun q => q rfl)]
    unfold mf_354_20
    have es : serV (vR r) = kdV (vR r) :: serRow r := rfl
    rw [r_mixRow hN H ha, es, mx_cons (l := serRow r)]
    generalize mx (mx z [kdV (vR r)]) (serRow r) = w
    rfl
  · rw [if_pos (show ¬ kdV (vT q) = 1 from (show ¬ (2 : Int32) = 1 by decide))]
    have hw : a + (2 + q.length) ≤ 166300 := ha
    unfold mf_354_26
    rw [r_size (s := mL s 89 _) H ha]
    show mo_bv (mf_87 N (Int32.ofNat q.length) (mL s 89 _)) _ = _
    rw [r_mix]
    have e := r_mixTabL (N := N) hN hR H ha q.length 0 (N - (q.length + 1)) (mx (mx z [kdV (vT q)]) [Int32.ofNat q.length]) (Nat.zero_add _)
    rw [show N - (q.length + 1) + (q.length + 1) = N by omega, List.drop_zero] at e
    have es : serV (vT q) = kdV (vT q) :: Int32.ofNat q.length :: q.flatMap serRow := rfl
    rw [es, mx_cons (l := Int32.ofNat q.length :: q.flatMap serRow), mx_cons (l := q.flatMap serRow)]
    generalize mx (mx (mx z [kdV (vT q)]) [Int32.ofNat q.length]) (q.flatMap serRow) = w at e ⊢
    generalize mx (mx z [kdV (vT q)]) [Int32.ofNat q.length] = w' at e ⊢
    exact e
  · exact absurd rfl hk
end SU
