/-! ===== PURE: sum goes into PACKS (the reference's stack) ===== -/
abbrev fD (s s' : mS) : Prop := mfr (fun q => q = 55) (fun q => q = 89) (fun q => q = 52 ∨ q = 53 ∨ q = 54) (fun _ => False) s s'
theorem bulk_pos : ∀ (n : Nat) (x : Th n), 1 ≤ bulk n x := by
  have hP : ∀ p : Pl, 1 ≤ bulkP p := fun p => by
    obtain z | r | q := p
    · exact Nat.le_refl _
    · exact Nat.le_add_right _ _
    · exact Nat.le_add_right _ _
  intro n x
  match n, x with
  | 0, p => exact hP p
  | n + 1, x =>
    obtain p | l := x
    · exact hP p
    · exact Nat.le_add_right _ _
section SV
variable {N : Nat} {R : Nat → Prop}
/-- the top's part i is gone into; what it is, is told by the isInt, partAt that follow -/
theorem mt_top {f d a i n : Nat} {s : mS} {l : List (Th n)} {P : Nat → Nod → Prop} (hd : d < 8) (h55 : s.1 55 = Int32.ofNat (d + 1)) (h52 : s.2.2.1 52 d = Int32.ofNat a) (h54 : s.2.2.1 54 d = Int32.ofNat i) (H : Wy (s.2.2.1 47) a P (vP n l)) (ha : a + wV wn (vP n l) ≤ 166300) (hi : i ≤ l.length) : mf_355_L1 N (f + 1) 0 s = if i = l.length then mf_355_L1 N f 0 (mI s 55 (Int32.ofNat d)) else mo_bi (mf_293 N (Int32.ofNat a) (Int32.ofNat i) (mA s 54 (upd (s.2.2.1 54) d (Int32.ofNat (i + 1))))) (fun s1 y => mf_355_115 N (mf_355_L1 N f) (Int32.ofNat a) (Int32.ofNat i) y s1) := by
  have hw : a + (2 + 2 * l.length) ≤ 166300 := ha
  have e1 : s.1 55 - 1 = Int32.ofNat d := by rw [h55]; exact i32sub (by omega)
  show mf_355_41 N (mf_355_L1 N f) s = _
  unfold mf_355_41
  rw [if_neg (show ¬ s.1 55 ≤ 0 from fun q => by rw [h55] at q; have := (i32le (b := 0) (by omega) (by decide)).mp q; omega)]
  unfold mf_355_48
  rw [if_pos (gd e1 hd (by decide)), if_pos (gd e1 hd (by decide)), cl e1 (by omega), h52, h54, r_size H ha]
  show mf_355_78 N (mf_355_L1 N f) (Int32.ofNat a) (Int32.ofNat i) (Int32.ofNat i) (Int32.ofNat l.length) s = _
  unfold mf_355_78
  by_cases c : i = l.length
  · rw [if_neg (fun q => q (by rw [c])), if_pos c]
    unfold mf_355_81
    rw [e1]
  · rw [if_pos (fun q => c ((i32eq (by omega) (by omega)).mp q)), if_neg c]
    unfold mf_355_94
    rw [if_pos (gd e1 hd (by decide)), if_pos (gd e1 hd (by decide)), cl e1 (by omega), h54, show Int32.ofNat i + 1 = Int32.ofNat (i + 1) from i32al]
theorem r_partE {s : mS} {a i c : Nat} (ha : a + 3 + 2 * i < 166300) (h1 : s.2.2.1 47 a = 3) (h2 : Int32.ofNat a + s.2.2.1 47 (a + 3 + 2 * i) = Int32.ofNat c) : mf_294 N (Int32.ofNat a) (Int32.ofNat i) s = some (s, some (.int (Int32.ofNat c))) := by
  have e2 : Int32.ofNat a + 3 + 2 * Int32.ofNat i = Int32.ofNat (a + 3 + 2 * i) := by
    rw [show Int32.ofNat a + 3 = Int32.ofNat (a + 3) from i32al, show (2 : Int32) * Int32.ofNat i = Int32.ofNat (2 * i) from i32ml, i32add]
  unfold mf_294 mf_294_0
  rw [if_pos (gd rfl (by omega) (by decide)), i32c (m := a) (by omega), h1, if_pos (by decide)]
  unfold mf_294_24
  rw [if_pos (gd e2 (by omega) (by decide)), cl e2 (by omega)]
  unfold mf_294_36
  rw [h2]
theorem r_mix' {s : mS} {v : Int32} : mf_87 N v s = some (mL s 89 (mx (s.2.1 89) [v]), none) := by
  unfold mf_87 mf_87_0
  rfl
theorem mt_int {f d a i n : Nat} {s : mS} {l : List (Th n)} {P : Nat → Nod → Prop} {z : Int32} (hd : d < 8) (h55 : s.1 55 = Int32.ofNat (d + 1)) (h52 : s.2.2.1 52 d = Int32.ofNat a) (h54 : s.2.2.1 54 d = Int32.ofNat i) (H : Wy (s.2.2.1 47) a P (vP n l)) (ha : a + wV wn (vP n l) ≤ 166300) (hi : i < l.length) (hz : intT n l[i] = some z) : mf_355_L1 N (f + 1) 0 s = mf_355_L1 N f 0 (mL (mA s 54 (upd (s.2.2.1 54) d (Int32.ofNat (i + 1)))) 89 (mx (s.2.1 89) [0, z])) := by
  have hw : a + (2 + 2 * l.length) ≤ 166300 := ha
  rw [mt_top hd h55 h52 h54 H ha (by omega), if_neg (by omega)]
  generalize hS : mA s 54 (upd (s.2.2.1 54) d (Int32.ofNat (i + 1))) = S1
  have e47 : S1.2.2.1 47 = s.2.2.1 47 := by rw [← hS]; rfl
  have e89 : S1.2.1 89 = s.2.1 89 := by rw [← hS]; rfl
  rw [r_isInt (s := S1) (by rw [e47]; exact H) ha hi, hz]
  show mf_355_115 N (mf_355_L1 N f) (Int32.ofNat a) (Int32.ofNat i) 1 S1 = _
  unfold mf_355_115
  rw [if_neg (by decide)]
  unfold mf_355_118
  rw [r_mix']
  show mf_355_123 N (mf_355_L1 N f) (Int32.ofNat a) (Int32.ofNat i) (mL S1 89 (mx (S1.2.1 89) [0])) = _
  unfold mf_355_123
  have e2 : Int32.ofNat a + 3 + 2 * Int32.ofNat i = Int32.ofNat (a + 3 + 2 * i) := by
    rw [show Int32.ofNat a + 3 = Int32.ofNat (a + 3) from i32al, show (2 : Int32) * Int32.ofNat i = Int32.ofNat (2 * i) from i32ml, i32add]
  have e3 : (mL S1 89 (mx (S1.2.1 89) [0])).2.2.1 47 (a + 3 + 2 * i) = z := by
    show S1.2.2.1 47 (a + 3 + 2 * i) = z
    rw [e47]
    exact ((H.2.2 i hi).1 z hz).2
  rw [if_pos (gd e2 (by omega) (by decide)), cl e2 (by omega), e3, r_mix, e89, ← mx_app]
  rfl
theorem mt_plain {f d a i n : Nat} {s : mS} {l : List (Th n)} (hN : 170000 ≤ N) (hR : ∀ y, R y → y < 166300) (hd : d < 8) (h55 : s.1 55 = Int32.ofNat (d + 1)) (h52 : s.2.2.1 52 d = Int32.ofNat a) (h54 : s.2.2.1 54 d = Int32.ofNat i) (H : Wy (s.2.2.1 47) a (LayN (s.2.2.1 47) R) (vP n l)) (ha : a + wV wn (vP n l) ≤ 166300) (hi : i < l.length) (hz : intT n l[i] = none) (hk : ¬ kdV (vw ⟨n, l[i]⟩) = 3) : mf_355_L1 N (f + 1) 0 s = mf_355_L1 N f 0 (mL (mA s 54 (upd (s.2.2.1 54) d (Int32.ofNat (i + 1)))) 89 (mx (s.2.1 89) (ser n l[i]))) := by
  have hw : a + (2 + 2 * l.length) ≤ 166300 := ha
  rw [mt_top hd h55 h52 h54 H ha (by omega), if_neg (by omega)]
  generalize hS : mA s 54 (upd (s.2.2.1 54) d (Int32.ofNat (i + 1))) = S1
  have e47 : S1.2.2.1 47 = s.2.2.1 47 := by rw [← hS]; rfl
  have e89 : S1.2.1 89 = s.2.1 89 := by rw [← hS]; rfl
  rw [← e47] at H
  rw [r_isInt (s := S1) H ha hi, hz]
  show mf_355_115 N (mf_355_L1 N f) (Int32.ofNat a) (Int32.ofNat i) 0 S1 = _
  unfold mf_355_115
  rw [if_pos rfl]
  unfold mf_355_142
  obtain ⟨c, g1, g2⟩ := r_partP (N := N) (s := S1) H ha hi hz
  obtain ⟨L1, L2⟩ := LayN_iff.mp g2
  obtain ⟨k1, -, k3⟩ := L2.kd
  have hc : c + wV wn (vw ⟨n, l[i]⟩) ≤ 166300 := by
    have := hR _ (L1 (c + wV wn (vw ⟨n, l[i]⟩) - 1) (by omega) (by omega))
    omega
  rw [g1]
  show mf_355_152 N (mf_355_L1 N f) (Int32.ofNat a) (Int32.ofNat i) (Int32.ofNat c) S1 = _
  unfold mf_355_152
  rw [if_pos (gd rfl (by omega) (by decide)), i32c (m := c) (by omega), k1, if_pos hk]
  unfold mf_355_190
  rw [g1]
  show mf_355_197 N (mf_355_L1 N f) (Int32.ofNat c) S1 = _
  unfold mf_355_197
  have e := r_mixPlain (s := S1) (z := S1.2.1 89) hN hR hk L2 hc
  rw [mL_id] at e
  rw [e, e89, vw_ser ⟨n, l[i]⟩]
  rfl
theorem mt_pack {f d a i n : Nat} {s : mS} {l : List (Th (n + 1))} {l' : List (Th n)} (hR : ∀ y, R y → y < 166300) (hd : d + 1 < 8) (h55 : s.1 55 = Int32.ofNat (d + 1)) (h52 : s.2.2.1 52 d = Int32.ofNat a) (h54 : s.2.2.1 54 d = Int32.ofNat i) (H : Wy (s.2.2.1 47) a (LayN (s.2.2.1 47) R) (vP (n + 1) l)) (ha : a + wV wn (vP (n + 1) l) ≤ 166300) (hi : i < l.length) (hl : l[i] = .inr l') : ∃ c s2, (∀ f, mf_355_L1 N (f + 1) 0 s = mf_355_L1 N f 0 s2) ∧ s2.1 55 = Int32.ofNat (d + 1 + 1) ∧ s2.2.2.1 52 (d + 1) = Int32.ofNat c ∧ s2.2.2.1 54 (d + 1) = Int32.ofNat 0 ∧ s2.2.2.1 54 d = Int32.ofNat (i + 1) ∧ (∀ j, j < d + 1 → s2.2.2.1 52 j = s.2.2.1 52 j) ∧ (∀ j, j < d → s2.2.2.1 54 j = s.2.2.1 54 j) ∧ s2.2.1 89 = mx (s.2.1 89) [3, Int32.ofNat l'.length] ∧ fD s s2 ∧ Wy (s.2.2.1 47) c (LayN (s.2.2.1 47) R) (vP n l') ∧ c + wV wn (vP n l') ≤ 166300 := by
  have hw : a + (2 + 2 * l.length) ≤ 166300 := ha
  have hz : intT (n + 1) l[i] = none := by rw [hl]; rfl
  have hv : vw ⟨n + 1, l[i]⟩ = vP n l' := by rw [hl]; rfl
  obtain ⟨-, c, g1, g2⟩ := (H.2.2 i hi).2 hz
  have h3 : s.2.2.1 47 a = 3 := H.1
  obtain ⟨L1, L2⟩ := LayN_iff.mp g2
  rw [hv] at L1 L2
  obtain ⟨k1, -, k3⟩ := L2.kd
  have hc : c + wV wn (vP n l') ≤ 166300 := by
    have := hR _ (L1 (c + wV wn (vP n l') - 1) (by omega) (by omega))
    omega
  obtain ⟨S1, hS⟩ : ∃ S1, S1 = mA s 54 (upd (s.2.2.1 54) d (Int32.ofNat (i + 1))) := ⟨_, rfl⟩
  have e47 : S1.2.2.1 47 = s.2.2.1 47 := by rw [hS]; rfl
  have e89 : S1.2.1 89 = s.2.1 89 := by rw [hS]; rfl
  have e55 : S1.1 55 = Int32.ofNat (d + 1) := by rw [hS]; exact h55
  have H1 : Wy (S1.2.2.1 47) a (LayN (S1.2.2.1 47) R) (vP (n + 1) l) := by rw [e47]; exact H
  obtain ⟨S3, hS3⟩ : ∃ S3, S3 = mL S1 89 (mx (s.2.1 89) [3, Int32.ofNat l'.length]) := ⟨_, rfl⟩
  obtain ⟨s2, hs2⟩ : ∃ s2, s2 = mI (mA (mA (mA S3 52 (upd (S3.2.2.1 52) (d + 1) (Int32.ofNat c))) 53 (upd (S3.2.2.1 53) (d + 1) 0)) 54 (upd (S3.2.2.1 54) (d + 1) 0)) 55 (Int32.ofNat (d + 1 + 1)) := ⟨_, rfl⟩
  refine ⟨c, s2, fun f => ?_, by rw [hs2]; rfl, ?_, ?_, ?_, fun j hj => ?_, fun j hj => ?_, ?_, ⟨fun q r => ?_, fun q r => ?_, fun q r => ?_, fun q r => ?_⟩, L2, hc⟩
  · rw [mt_top (by omega) h55 h52 h54 H ha (by omega), if_neg (by omega), ← hS, r_isInt (s := S1) H1 ha hi, hz]
    show mf_355_115 N (mf_355_L1 N f) (Int32.ofNat a) (Int32.ofNat i) 0 S1 = _
    unfold mf_355_115
    rw [if_pos rfl]
    unfold mf_355_142
    rw [r_partE (s := S1) (c := c) (by omega) (by rw [e47]; exact h3) (by rw [e47]; exact g1)]
    show mf_355_152 N (mf_355_L1 N f) (Int32.ofNat a) (Int32.ofNat i) (Int32.ofNat c) S1 = _
    unfold mf_355_152
    rw [if_pos (gd rfl (by omega) (by decide)), i32c (m := c) (by omega), e47, k1, if_neg (fun q => q rfl)]
    unfold mf_355_157
    rw [r_mix']
    show mf_355_162 N (mf_355_L1 N f) (Int32.ofNat a) (Int32.ofNat i) (mL S1 89 (mx (S1.2.1 89) [3])) = _
    unfold mf_355_162
    rw [r_partE (s := mL S1 89 (mx (S1.2.1 89) [3])) (c := c) (by omega) (by show S1.2.2.1 47 a = 3; rw [e47]; exact h3) (by show _ + S1.2.2.1 47 _ = _; rw [e47]; exact g1)]
    show mf_355_170 N (mf_355_L1 N f) (Int32.ofNat a) (Int32.ofNat i) (Int32.ofNat c) (mL S1 89 (mx (S1.2.1 89) [3])) = _
    unfold mf_355_170
    rw [r_size (s := mL S1 89 (mx (S1.2.1 89) [3])) (P := LayN (s.2.2.1 47) R) (v := vP n l') (by show Wy (S1.2.2.1 47) c _ _; rw [e47]; exact L2) hc]
    show mf_355_173 N (mf_355_L1 N f) (Int32.ofNat a) (Int32.ofNat i) (Int32.ofNat l'.length) (mL S1 89 (mx (S1.2.1 89) [3])) = _
    unfold mf_355_173
    rw [r_mix, ← mx_app, e89]
    show mf_355_176 N (mf_355_L1 N f) (Int32.ofNat a) (Int32.ofNat i) (mL S1 89 (mx (s.2.1 89) [3, Int32.ofNat l'.length])) = _
    rw [← hS3]
    unfold mf_355_176
    have f47 : S3.2.2.1 47 = s.2.2.1 47 := by rw [hS3]; exact e47
    have f55 : S3.1 55 = Int32.ofNat (d + 1) := by rw [hS3]; exact e55
    rw [r_partE (s := S3) (c := c) (by omega) (by rw [f47]; exact h3) (by rw [f47]; exact g1)]
    show mf_355_183 N (mf_355_L1 N f) (Int32.ofNat c) S3 = _
    unfold mf_355_183 mf_296 mf_296_0
    rw [f55, if_pos (gd rfl hd (by decide)), if_pos (gd rfl hd (by decide)), if_pos (gd rfl hd (by decide)), i32c (m := d + 1) (by omega), show Int32.ofNat (d + 1) + 1 = Int32.ofNat (d + 1 + 1) from i32al, ← hs2]
    rfl
  · rw [hs2]
    exact if_pos rfl
  · rw [hs2]
    exact if_pos rfl
  · rw [hs2]
    show upd (S3.2.2.1 54) (d + 1) 0 d = _
    unfold upd
    rw [if_neg (by omega), hS3, hS]
    exact if_pos rfl
  · rw [hs2]
    show upd (S3.2.2.1 52) (d + 1) _ j = _
    unfold upd
    rw [if_neg (by omega), hS3, hS]
    rfl
  · rw [hs2]
    show upd (S3.2.2.1 54) (d + 1) 0 j = _
    unfold upd
    rw [if_neg (by omega), hS3, hS]
    exact if_neg (by omega)
  · rw [hs2]
    show S3.2.1 89 = _
    rw [hS3]
    show (if (89 : Nat) = 89 then mx (s.2.1 89) [3, Int32.ofNat l'.length] else S1.2.1 89) = _
    rw [if_pos rfl]
  · rw [hs2]
    refine (if_neg r).trans ?_
    show S3.1 q = _
    rw [hS3, hS]
    rfl
  · rw [hs2]
    show S3.2.1 q = _
    rw [hS3]
    refine (if_neg r).trans ?_
    rw [hS]
    rfl
  · rw [hs2]
    show (if q = 54 then _ else if q = 53 then _ else if q = 52 then _ else S3.2.2.1 q) = _
    rw [if_neg (fun z => r (Or.inr (Or.inr z))), if_neg (fun z => r (Or.inr (Or.inl z))), if_neg (fun z => r (Or.inl z)), hS3, hS]
    exact if_neg (fun z => r (Or.inr (Or.inr z)))
  · rw [hs2]
    show S3.2.2.2 q = _
    rw [hS3, hS]
    rfl
/-- what is told of going over the parts from i on -/
def dfsR (N n : Nat) (l : List (Th n)) (i d : Nat) (s : mS) : Prop := ∃ k s', k ≤ 2 * ((l.drop i).map (bulk n)).sum + 1 ∧ (∀ f, mf_355_L1 N (f + k) 0 s = mf_355_L1 N f 0 s') ∧ s'.1 55 = Int32.ofNat d ∧ s'.2.1 89 = mx (s.2.1 89) ((l.drop i).flatMap (ser n)) ∧ (∀ j, j < d → s'.2.2.1 52 j = s.2.2.1 52 j ∧ s'.2.2.1 54 j = s.2.2.1 54 j) ∧ fD s s'
theorem dfs_tail {n i d k1 : Nat} {l : List (Th n)} {s s1 : mS} (hi : i < l.length) (hst : ∀ f, mf_355_L1 N (f + k1) 0 s = mf_355_L1 N f 0 s1) (hk1 : k1 ≤ 2 * bulk n l[i]) (h89 : s1.2.1 89 = mx (s.2.1 89) (ser n l[i])) (hj : ∀ j, j < d → s1.2.2.1 52 j = s.2.2.1 52 j ∧ s1.2.2.1 54 j = s.2.2.1 54 j) (hf : fD s s1) (q : dfsR N n l (i + 1) d s1) : dfsR N n l i d s := by
  obtain ⟨k, s', q1, q2, q3, q4, q5, q6⟩ := q
  have ed := List.drop_eq_getElem_cons hi
  refine ⟨k + k1, s', ?_, fun f => ?_, q3, ?_, fun j h => ⟨(q5 j h).1.trans (hj j h).1, (q5 j h).2.trans (hj j h).2⟩, hf.tr q6⟩
  · rw [ed, List.map_cons, List.sum_cons]
    omega
  · rw [← Nat.add_assoc, hst, q2]
  · rw [q4, h89, ed, List.flatMap_cons, mx_app]
theorem dfs_end {n d a : Nat} {l : List (Th n)} {s : mS} {P : Nat → Nod → Prop} (hd : d < 8) (h55 : s.1 55 = Int32.ofNat (d + 1)) (h52 : s.2.2.1 52 d = Int32.ofNat a) (h54 : s.2.2.1 54 d = Int32.ofNat l.length) (H : Wy (s.2.2.1 47) a P (vP n l)) (ha : a + wV wn (vP n l) ≤ 166300) : dfsR N n l l.length d s := by
  refine ⟨1, mI s 55 (Int32.ofNat d), by omega, fun f => ?_, rfl, ?_, fun _ _ => ⟨rfl, rfl⟩, ⟨fun q r => if_neg r, fun _ _ => rfl, fun _ _ => rfl, fun _ _ => rfl⟩⟩
  · rw [mt_top hd h55 h52 h54 H ha (Nat.le_refl _), if_pos rfl]
  · rw [List.drop_length]
    rfl
/-- a part that is no PACK -/
theorem dfs_flat {n i d a : Nat} {l : List (Th n)} {s : mS} (hN : 170000 ≤ N) (hR : ∀ y, R y → y < 166300) (hd : d < 8) (h55 : s.1 55 = Int32.ofNat (d + 1)) (h52 : s.2.2.1 52 d = Int32.ofNat a) (h54 : s.2.2.1 54 d = Int32.ofNat i) (H : Wy (s.2.2.1 47) a (LayN (s.2.2.1 47) R) (vP n l)) (ha : a + wV wn (vP n l) ≤ 166300) (hi : i < l.length) (hk : ¬ kdV (vw ⟨n, l[i]⟩) = 3) (q : ∀ s1 : mS, s1.1 55 = Int32.ofNat (d + 1) → s1.2.2.1 52 d = Int32.ofNat a → s1.2.2.1 54 d = Int32.ofNat (i + 1) → s1.2.2.1 47 = s.2.2.1 47 → dfsR N n l (i + 1) d s1) : dfsR N n l i d s := by
  have hb := bulk_pos n l[i]
  have hst : ∀ f, mf_355_L1 N (f + 1) 0 s = mf_355_L1 N f 0 (mL (mA s 54 (upd (s.2.2.1 54) d (Int32.ofNat (i + 1)))) 89 (mx (s.2.1 89) (ser n l[i]))) := fun f => by
    cases hz : intT n l[i] with
    | some z =>
      have es : ser n l[i] = [0, z] := by
        rw [vw_ser ⟨n, l[i]⟩]
        have hz : intT n l[i] = some z := hz
        rw [vw_int ⟨n, l[i]⟩] at hz
        generalize vw ⟨n, l[i]⟩ = v at hz
        obtain y | r | q | l9 := v
        · cases hz
          rfl
        · cases hz
        · cases hz
        · cases hz
      rw [mt_int hd h55 h52 h54 H ha hi hz, es]
    | none => exact mt_plain hN hR hd h55 h52 h54 H ha hi hz hk
  refine dfs_tail hi hst (by omega) ?_ (fun j hj => ⟨rfl, if_neg (by omega)⟩) ⟨fun _ _ => rfl, fun q r => if_neg r, fun q r => if_neg (fun z => r (Or.inr (Or.inr z))), fun _ _ => rfl⟩ (q _ h55 h52 ?_ rfl)
  · generalize mx (s.2.1 89) (ser n l[i]) = w
    rfl
  · exact if_pos rfl
/-- all parts of the top from i on, and the top is gone -/
theorem r_dfs (hN : 170000 ≤ N) (hR : ∀ y, R y → y < 166300) : ∀ (n : Nat) (c i : Nat) (l : List (Th n)) (a d : Nat) (s : mS), i + c = l.length → d + n < 8 → s.1 55 = Int32.ofNat (d + 1) → s.2.2.1 52 d = Int32.ofNat a → s.2.2.1 54 d = Int32.ofNat i → Wy (s.2.2.1 47) a (LayN (s.2.2.1 47) R) (vP n l) → a + wV wn (vP n l) ≤ 166300 → dfsR N n l i d s := by
  intro n
  induction n with
  | zero =>
    intro c
    induction c with
    | zero =>
      intro i l a d s hi hd h55 h52 h54 H ha
      have hi : i = l.length := hi
      subst hi
      exact dfs_end (by omega) h55 h52 h54 H ha
    | succ c ih =>
      intro i l a d s hi hd h55 h52 h54 H ha
      have hi' : i < l.length := by omega
      refine dfs_flat hN hR (by omega) h55 h52 h54 H ha hi' ?_ (fun s1 a1 a2 a3 a4 => ih (i + 1) l a d s1 (by omega) hd a1 a2 a3 (by rw [a4]; exact H) ha)
      obtain z | r | q := l[i]
      · exact (show ¬ (0 : Int32) = 3 by decide)
      · exact (show ¬ (1 : Int32) = 3 by decide)
      · exact (show ¬ (2 : Int32) = 3 by decide)
  | succ n ihn =>
    intro c
    induction c with
    | zero =>
      intro i l a d s hi hd h55 h52 h54 H ha
      have hi : i = l.length := hi
      subst hi
      exact dfs_end (by omega) h55 h52 h54 H ha
    | succ c ih =>
      intro i l a d s hi hd h55 h52 h54 H ha
      have hi' : i < l.length := by omega
      by_cases hp : ∃ l' : List (Th n), l[i] = .inr l'
      · obtain ⟨l', hl⟩ := hp
        obtain ⟨c', s2, b1, b2, b3, b4, b5, b6, b7, b8, b9, b10, b11⟩ := mt_pack (N := N) (f := 0) hR (by omega) h55 h52 h54 H ha hi' hl
        have e47 : s2.2.2.1 47 = s.2.2.1 47 := b9.2.2.1 47 (by omega)
        obtain ⟨k, s3, r1, r2, r3, r4, r5, r6⟩ := ihn l'.length 0 l' c' (d + 1) s2 (Nat.zero_add _) (by omega) b2 b3 b4 (by rw [e47]; exact b10) b11
        have f47 : s3.2.2.1 47 = s.2.2.1 47 := (r6.2.2.1 47 (by omega)).trans e47
        rw [List.drop_zero] at r1 r4
        refine dfs_tail (k1 := k + 1) (s1 := s3) hi' (fun f => by rw [← Nat.add_assoc, b1, r2]) ?_ ?_ (fun j hj => ⟨(r5 j (by omega)).1.trans (b6 j (by omega)), (r5 j (by omega)).2.trans (b7 j hj)⟩) (b9.tr r6) (ih (i + 1) l a d s3 (by omega) hd r3 ((r5 d (by omega)).1.trans ((b6 d (by omega)).trans h52)) ((r5 d (by omega)).2.trans b5) (by rw [f47]; exact H) ha)
        · rw [hl]
          show k + 1 ≤ 2 * (1 + (l'.map (bulk n)).sum)
          omega
        · rw [r4, b8, hl]
          show _ = mx (s.2.1 89) ([3, Int32.ofNat l'.length] ++ l'.flatMap (ser n))
          rw [mx_app]
      · refine dfs_flat hN hR (by omega) h55 h52 h54 H ha hi' ?_ (fun s1 a1 a2 a3 a4 => ih (i + 1) l a d s1 (by omega) hd a1 a2 a3 (by rw [a4]; exact H) ha)
        revert hp
        generalize l[i] = y
        intro hp
        obtain p | l' := y
        · obtain z | r | q := p
          · exact (show ¬ (0 : Int32) = 3 by decide)
          · exact (show ¬ (1 : Int32) = 3 by decide)
          · exact (show ¬ (2 : Int32) = 3 by decide)
        · exact absurd ⟨l', rfl⟩ hp
end SV
