-- ### 58.psum2.lean.txt
section
/-! ===== PURE: sum goes into PACKS (the reference's stack) ===== -/
abbrev fD (s s' : mS) : Prop := mfr (fun q => q = 55) (fun q => q = 89) (fun q => q = 52 ∨ q = 53 ∨ q = 54) (fun _ => False) s s'
theorem bulk_pos : ∀ (n : Nat) (x : Th n), 1 ≤ bulk n x := by
  have hP : ∀ p : Pl, 1 ≤ bulkP p := fun p => by
    obtain z | r | q := p
    · exact Nat.le_refl _
    · exact Nat.le_add_right _ _
    · exact Nat.le_add_right _ _
  intro n x
  match n, x with
  | 0, p => exact hP p
  | n + 1, x =>
    obtain p | l := x
    · exact hP p
    · exact Nat.le_add_right _ _
section SV
variable {N : Nat} {R : Nat → Prop}
/-- the top's part i is gone into; what it is, is told by the isInt, partAt that follow -/
theorem mt_top {f d a i n : Nat} {s : mS} {l : List (Th n)} {P : Nat → Nod → Prop} (hd : d < 8) (h55 : s.1 55 = Int32.ofNat (d + 1)) (h52 : s.2.2.1 52 d = Int32.ofNat a) (h54 : s.2.2.1 54 d = Int32.ofNat i) (H : Wy (s.2.2.1 47) a P (vP n l)) (ha : a + wV wn (vP n l) ≤ 166300) (hi : i ≤ l.length) : mf_355_L1 N (f + 1) 0 s = if i = l.length then mf_355_L1 N f 0 (mI s 55 (Int32.ofNat d)) else mo_bi (mf_293 N (Int32.ofNat a) (Int32.ofNat i) (mA s 54 (upd (s.2.2.1 54) d (Int32.ofNat (i + 1))))) (fun s1 y => mf_355_115 N (mf_355_L1 N f) (Int32.ofNat a) (Int32.ofNat i) y s1) := by
  have hw : a + (2 + 2 * l.length) ≤ 166300 := ha
  have e1 : s.1 55 - 1 = Int32.ofNat d := by rw [h55]; exact i32sub (by omega)
  show mf_355_41 N (mf_355_L1 N f) s = _
  unfold mf_355_41
  rw [if_neg (show ¬ s.1 55 ≤ 0 from fun q => by rw [h55] at q; have := (i32le (b := 0) (by omega) (by decide)).mp q; omega)]
  unfold mf_355_48
  rw [if_pos (gd e1 hd (by decide)), if_pos (gd e1 hd (by decide)), cl e1 (by omega), h52, h54, r_size H ha]
  show mf_355_78 N (mf_355_L1 N f) (Int32.ofNat a) (Int32.ofNat i) (Int32.ofNat i) (Int32.ofNat l.length) s = _
  unfold mf_355_78
  by_cases c : i = l.length
  · rw [if_neg (fun q => q (by rw [c])), if_pos c]
    unfold mf_355_81
    rw [e1]
  · rw [if_pos (fun q => c ((i32eq (by omega) (by omega)).mp q)), if_neg c]
    unfold mf_355_94
    rw [if_pos (gd e1 hd (by decide)), if_pos (gd e1 hd (by decide)), cl e1 (by omega), h54, show Int32.ofNat i + 1 = Int32.ofNat (i + 1) from i32al]
theorem r_partE {s : mS} {a i c : Nat} (ha : a + 3 + 2 * i < 166300) (h1 : s.2.2.1 47 a = 3) (h2 : Int32.ofNat a + s.2.2.1 47 (a + 3 + 2 * i) = Int32.ofNat c) : mf_294 N (Int32.ofNat a) (Int32.ofNat i) s = some (s, some (.int (Int32.ofNat c))) := by
  have e2 : Int32.ofNat a + 3 + 2 * Int32.ofNat i = Int32.ofNat (a + 3 + 2 * i) := by
    rw [show Int32.ofNat a + 3 = Int32.ofNat (a + 3) from i32al, show (2 : Int32) * Int32.ofNat i = Int32.ofNat (2 * i) from i32ml, i32add]
  unfold mf_294 mf_294_0
  rw [if_pos (gd rfl (by omega) (by decide)), i32c (m := a) (by omega), h1, if_pos (by decide)]
  unfold mf_294_24
  rw [if_pos (gd e2 (by omega) (by decide)), cl e2 (by omega)]
  unfold mf_294_36
  rw [h2]
theorem r_mix' {s : mS} {v : Int32} : mf_87 N v s = some (mL s 89 (mx (s.2.1 89) [v]), none) := by
  unfold mf_87 mf_87_0
  rfl
theorem mt_int {f d a i n : Nat} {s : mS} {l : List (Th n)} {P : Nat → Nod → Prop} {z : Int32} (hd : d < 8) (h55 : s.1 55 = Int32.ofNat (d + 1)) (h52 : s.2.2.1 52 d = Int32.ofNat a) (h54 : s.2.2.1 54 d = Int32.ofNat i) (H : Wy (s.2.2.1 47) a P (vP n l)) (ha : a + wV wn (vP n l) ≤ 166300) (hi : i < l.length) (hz : intT n l[i] = some z) : mf_355_L1 N (f + 1) 0 s = mf_355_L1 N f 0 (mL (mA s 54 (upd (s.2.2.1 54) d (Int32.ofNat (i + 1)))) 89 (mx (s.2.1 89) [0, z])) := by
  have hw : a + (2 + 2 * l.length) ≤ 166300 := ha
  rw [mt_top hd h55 h52 h54 H ha (by omega), if_neg (by omega)]
  generalize hS : mA s 54 (upd (s.2.2.1 54) d (Int32.ofNat (i + 1))) = S1
  have e47 : S1.2.2.1 47 = s.2.2.1 47 := by rw [← hS]; rfl
  have e89 : S1.2.1 89 = s.2.1 89 := by rw [← hS]; rfl
  rw [r_isInt (s := S1) (by rw [e47]; exact H) ha hi, hz]
  show mf_355_115 N (mf_355_L1 N f) (Int32.ofNat a) (Int32.ofNat i) 1 S1 = _
  unfold mf_355_115
  rw [if_neg (by decide)]
  unfold mf_355_118
  rw [r_mix']
  show mf_355_123 N (mf_355_L1 N f) (Int32.ofNat a) (Int32.ofNat i) (mL S1 89 (mx (S1.2.1 89) [0])) = _
  unfold mf_355_123
  have e2 : Int32.ofNat a + 3 + 2 * Int32.ofNat i = Int32.ofNat (a + 3 + 2 * i) := by
    rw [show Int32.ofNat a + 3 = Int32.ofNat (a + 3) from i32al, show (2 : Int32) * Int32.ofNat i = Int32.ofNat (2 * i) from i32ml, i32add]
  have e3 : (mL S1 89 (mx (S1.2.1 89) [0])).2.2.1 47 (a + 3 + 2 * i) = z := by
    show S1.2.2.1 47 (a + 3 + 2 * i) = z
    rw [e47]
    exact ((H.2.2 i hi).1 z hz).2
  rw [if_pos (gd e2 (by omega) (by decide)), cl e2 (by omega), e3, r_mix, e89, ← mx_app]
  rfl
theorem mt_plain {f d a i n : Nat} {s : mS} {l : List (Th n)} (hN : 170000 ≤ N) (hR : ∀ y, R y → y < 166300) (hd : d < 8) (h55 : s.1 55 = Int32.ofNat (d + 1)) (h52 : s.2.2.1 52 d = Int32.ofNat a) (h54 : s.2.2.1 54 d = Int32.ofNat i) (H : Wy (s.2.2.1 47) a (LayN (s.2.2.1 47) R) (vP n l)) (ha : a + wV wn (vP n l) ≤ 166300) (hi : i < l.length) (hz : intT n l[i] = none) (hk : ¬ kdV (vw ⟨n, l[i]⟩) = 3) : mf_355_L1 N (f + 1) 0 s = mf_355_L1 N f 0 (mL (mA s 54 (upd (s.2.2.1 54) d (Int32.ofNat (i + 1)))) 89 (mx (s.2.1 89) (ser n l[i]))) := by
  have hw : a + (2 + 2 * l.length) ≤ 166300 := ha
  rw [mt_top hd h55 h52 h54 H ha (by omega), if_neg (by omega)]
  generalize hS : mA s 54 (upd (s.2.2.1 54) d (Int32.ofNat (i + 1))) = S1
  have e47 : S1.2.2.1 47 = s.2.2.1 47 := by rw [← hS]; rfl
  have e89 : S1.2.1 89 = s.2.1 89 := by rw [← hS]; rfl
  rw [← e47] at H
  rw [r_isInt (s := S1) H ha hi, hz]
  show mf_355_115 N (mf_355_L1 N f) (Int32.ofNat a) (Int32.ofNat i) 0 S1 = _
  unfold mf_355_115
  rw [if_pos rfl]
  unfold mf_355_142
  obtain ⟨c, g1, g2⟩ := r_partP (N := N) (s := S1) H ha hi hz
  obtain ⟨L1, L2⟩ := LayN_iff.mp g2
  obtain ⟨k1, -, k3⟩ := L2.kd
  have hc : c + wV wn (vw ⟨n, l[i]⟩) ≤ 166300 := by
    have := hR _ (L1 (c + wV wn (vw ⟨n, l[i]⟩) - 1) (by omega) (by omega))
    omega
  rw [g1]
  show mf_355_152 N (mf_355_L1 N f) (Int32.ofNat a) (Int32.ofNat i) (Int32.ofNat c) S1 = _
  unfold mf_355_152
  rw [if_pos (gd rfl (by omega) (by decide)), i32c (m := c) (by omega), k1, if_pos hk]
  unfold mf_355_190
  rw [g1]
  show mf_355_197 N (mf_355_L1 N f) (Int32.ofNat c) S1 = _
  unfold mf_355_197
  have e := r_mixPlain (s := S1) (z := S1.2.1 89) hN hR hk L2 hc
  rw [mL_id] at e
  rw [e, e89, vw_ser ⟨n, l[i]⟩]
  rfl
theorem mt_pack {f d a i n : Nat} {s : mS} {l : List (Th (n + 1))} {l' : List (Th n)} (hR : ∀ y, R y → y < 166300) (hd : d + 1 < 8) (h55 : s.1 55 = Int32.ofNat (d + 1)) (h52 : s.2.2.1 52 d = Int32.ofNat a) (h54 : s.2.2.1 54 d = Int32.ofNat i) (H : Wy (s.2.2.1 47) a (LayN (s.2.2.1 47) R) (vP (n + 1) l)) (ha : a + wV wn (vP (n + 1) l) ≤ 166300) (hi : i < l.length) (hl : l[i] = .inr l') : ∃ c s2, (∀ f, mf_355_L1 N (f + 1) 0 s = mf_355_L1 N f 0 s2) ∧ s2.1 55 = Int32.ofNat (d + 1 + 1) ∧ s2.2.2.1 52 (d + 1) = Int32.ofNat c ∧ s2.2.2.1 54 (d + 1) = Int32.ofNat 0 ∧ s2.2.2.1 54 d = Int32.ofNat (i + 1) ∧ (∀ j, j < d + 1 → s2.2.2.1 52 j = s.2.2.1 52 j) ∧ (∀ j, j < d → s2.2.2.1 54 j = s.2.2.1 54 j) ∧ s2.2.1 89 = mx (s.2.1 89) [3, Int32.ofNat l'.length] ∧ fD s s2 ∧ Wy (s.2.2.1 47) c (LayN (s.2.2.1 47) R) (vP n l') ∧ c + wV wn (vP n l') ≤ 166300 := by
  have hw : a + (2 + 2 * l.length) ≤ 166300 := ha
  have hz : intT (n + 1) l[i] = none := by rw [hl]; rfl
  have hv : vw ⟨n + 1, l[i]⟩ = vP n l' := by rw [hl]; rfl
  obtain ⟨-, c, g1, g2⟩ := (H.2.2 i hi).2 hz
  have h3 : s.2.2.1 47 a = 3 := H.1
  obtain ⟨L1, L2⟩ := LayN_iff.mp g2
  rw [hv] at L1 L2
  obtain ⟨k1, -, k3⟩ := L2.kd
  have hc : c + wV wn (vP n l') ≤ 166300 := by
    have := hR _ (L1 (c + wV wn (vP n l') - 1) (by omega) (by omega))
    omega
  obtain ⟨S1, hS⟩ : ∃ S1, S1 = mA s 54 (upd (s.2.2.1 54) d (Int32.ofNat (i + 1))) := ⟨_, rfl⟩
  have e47 : S1.2.2.1 47 = s.2.2.1 47 := by rw [hS]; rfl
  have e89 : S1.2.1 89 = s.2.1 89 := by rw [hS]; rfl
  have e55 : S1.1 55 = Int32.ofNat (d + 1) := by rw [hS]; exact h55
  have H1 : Wy (S1.2.2.1 47) a (LayN (S1.2.2.1 47) R) (vP (n + 1) l) := by rw [e47]; exact H
  obtain ⟨S3, hS3⟩ : ∃ S3, S3 = mL S1 89 (mx (s.2.1 89) [3, Int32.ofNat l'.length]) := ⟨_, rfl⟩
  obtain ⟨s2, hs2⟩ : ∃ s2, s2 = mI (mA (mA (mA S3 52 (upd (S3.2.2.1 52) (d + 1) (Int32.ofNat c))) 53 (upd (S3.2.2.1 53) (d + 1) 0)) 54 (upd (S3.2.2.1 54) (d + 1) 0)) 55 (Int32.ofNat (d + 1 + 1)) := ⟨_, rfl⟩
  refine ⟨c, s2, fun f => ?_, by rw [hs2]; rfl, ?_, ?_, ?_, fun j hj => ?_, fun j hj => ?_, ?_, ⟨fun q r => ?_, fun q r => ?_, fun q r => ?_, fun q r => ?_⟩, L2, hc⟩
  · rw [mt_top (by omega) h55 h52 h54 H ha (by omega), if_neg (by omega), ← hS, r_isInt (s := S1) H1 ha hi, hz]
    show mf_355_115 N (mf_355_L1 N f) (Int32.ofNat a) (Int32.ofNat i) 0 S1 = _
    unfold mf_355_115
    rw [if_pos rfl]
    unfold mf_355_142
    rw [r_partE (s := S1) (c := c) (by omega) (by rw [e47]; exact h3) (by rw [e47]; exact g1)]
    show mf_355_152 N (mf_355_L1 N f) (Int32.ofNat a) (Int32.ofNat i) (Int32.ofNat c) S1 = _
    unfold mf_355_152
    rw [if_pos (gd rfl (by omega) (by decide)), i32c (m := c) (by omega), e47, k1, if_neg (fun q => q rfl)]
    unfold mf_355_157
    rw [r_mix']
    show mf_355_162 N (mf_355_L1 N f) (Int32.ofNat a) (Int32.ofNat i) (mL S1 89 (mx (S1.2.1 89) [3])) = _
    unfold mf_355_162
    rw [r_partE (s := mL S1 89 (mx (S1.2.1 89) [3])) (c := c) (by omega) (by show S1.2.2.1 47 a = 3; rw [e47]; exact h3) (by show _ + S1.2.2.1 47 _ = _; rw [e47]; exact g1)]
    show mf_355_170 N (mf_355_L1 N f) (Int32.ofNat a) (Int32.ofNat i) (Int32.ofNat c) (mL S1 89 (mx (S1.2.1 89) [3])) = _
    unfold mf_355_170
    rw [r_size (s := mL S1 89 (mx (S1.2.1 89) [3])) (P := LayN (s.2.2.1 47) R) (v := vP n l') (by show Wy (S1.2.2.1 47) c _ _; rw [e47]; exact L2) hc]
    show mf_355_173 N (mf_355_L1 N f) (Int32.ofNat a) (Int32.ofNat i) (Int32.ofNat l'.length) (mL S1 89 (mx (S1.2.1 89) [3])) = _
    unfold mf_355_173
    rw [r_mix, ← mx_app, e89]
    show mf_355_176 N (mf_355_L1 N f) (Int32.ofNat a) (Int32.ofNat i) (mL S1 89 (mx (s.2.1 89) [3, Int32.ofNat l'.length])) = _
    rw [← hS3]
    unfold mf_355_176
    have f47 : S3.2.2.1 47 = s.2.2.1 47 := by rw [hS3]; exact e47
    have f55 : S3.1 55 = Int32.ofNat (d + 1) := by rw [hS3]; exact e55
    rw [r_partE (s := S3) (c := c) (by omega) (by rw [f47]; exact h3) (by rw [f47]; exact g1)]
    show mf_355_183 N (mf_355_L1 N f) (Int32.ofNat c) S3 = _
    unfold mf_355_183 mf_296 mf_296_0
    rw [f55, if_pos (gd rfl hd (by decide)), if_pos (gd rfl hd (by decide)), if_pos (gd rfl hd (by decide)), i32c (m := d + 1) (by omega), show Int32.ofNat (d + 1) + 1 = Int32.ofNat (d + 1 + 1) from i32al, ← hs2]
    rfl
  · rw [hs2]
    exact if_pos rfl
  · rw [hs2]
    exact if_pos rfl
  · rw [hs2]
    show upd (S3.2.2.1 54) (d + 1) 0 d = _
    unfold upd
    rw [if_neg (by omega), hS3, hS]
    exact if_pos rfl
  · rw [hs2]
    show upd (S3.2.2.1 52) (d + 1) _ j = _
    unfold upd
    rw [if_neg (by omega), hS3, hS]
    rfl
  · rw [hs2]
    show upd (S3.2.2.1 54) (d + 1) 0 j = _
    unfold upd
    rw [if_neg (by omega), hS3, hS]
    exact if_neg (by omega)
  · rw [hs2]
    show S3.2.1 89 = _
    rw [hS3]
    show (if (89 : Nat) = 89 then mx (s.2.1 89) [3, Int32.ofNat l'.length] else S1.2.1 89) = _
    rw [if_pos rfl]
  · rw [hs2]
    refine (if_neg r).trans ?_
    show S3.1 q = _
    rw [hS3, hS]
    rfl
  · rw [hs2]
    show S3.2.1 q = _
    rw [hS3]
    refine (if_neg r).trans ?_
    rw [hS]
    rfl
  · rw [hs2]
    show (if q = 54 then _ else if q = 53 then _ else if q = 52 then _ else S3.2.2.1 q) = _
    rw [if_neg (fun z => r (Or.inr (Or.inr z))), if_neg (fun z => r (Or.inr (Or.inl z))), if_neg (fun z => r (Or.inl z)), hS3, hS]
    exact if_neg (fun z => r (Or.inr (Or.inr z)))
  · rw [hs2]
    show S3.2.2.2 q = _
    rw [hS3, hS]
    rfl
/-- what is told of going over the parts from i on -/
def dfsR (N n : Nat) (l : List (Th n)) (i d : Nat) (s : mS) : Prop := ∃ k s', k ≤ 2 * ((l.drop i).map (bulk n)).sum + 1 ∧ (∀ f, mf_355_L1 N (f + k) 0 s = mf_355_L1 N f 0 s') ∧ s'.1 55 = Int32.ofNat d ∧ s'.2.1 89 = mx (s.2.1 89) ((l.drop i).flatMap (ser n)) ∧ (∀ j, j < d → s'.2.2.1 52 j = s.2.2.1 52 j ∧ s'.2.2.1 54 j = s.2.2.1 54 j) ∧ fD s s'
theorem dfs_tail {n i d k1 : Nat} {l : List (Th n)} {s s1 : mS} (hi : i < l.length) (hst : ∀ f, mf_355_L1 N (f + k1) 0 s = mf_355_L1 N f 0 s1) (hk1 : k1 ≤ 2 * bulk n l[i]) (h89 : s1.2.1 89 = mx (s.2.1 89) (ser n l[i])) (hj : ∀ j, j < d → s1.2.2.1 52 j = s.2.2.1 52 j ∧ s1.2.2.1 54 j = s.2.2.1 54 j) (hf : fD s s1) (q : dfsR N n l (i + 1) d s1) : dfsR N n l i d s := by
  obtain ⟨k, s', q1, q2, q3, q4, q5, q6⟩ := q
  have ed := List.drop_eq_getElem_cons hi
  refine ⟨k + k1, s', ?_, fun f => ?_, q3, ?_, fun j h => ⟨(q5 j h).1.trans (hj j h).1, (q5 j h).2.trans (hj j h).2⟩, hf.tr q6⟩
  · rw [ed, List.map_cons, List.sum_cons]
    omega
  · rw [← Nat.add_assoc, hst, q2]
  · rw [q4, h89, ed, List.flatMap_cons, mx_app]
theorem dfs_end {n d a : Nat} {l : List (Th n)} {s : mS} {P : Nat → Nod → Prop} (hd : d < 8) (h55 : s.1 55 = Int32.ofNat (d + 1)) (h52 : s.2.2.1 52 d = Int32.ofNat a) (h54 : s.2.2.1 54 d = Int32.ofNat l.length) (H : Wy (s.2.2.1 47) a P (vP n l)) (ha : a + wV wn (vP n l) ≤ 166300) : dfsR N n l l.length d s := by
  refine ⟨1, mI s 55 (Int32.ofNat d), by omega, fun f => ?_, rfl, ?_, fun _ _ => ⟨rfl, rfl⟩, ⟨fun q r => if_neg r, fun _ _ => rfl, fun _ _ => rfl, fun _ _ => rfl⟩⟩
  · rw [mt_top hd h55 h52 h54 H ha (Nat.le_refl _), if_pos rfl]
  · rw [List.drop_length]
    rfl
/-- a part that is no PACK -/
theorem dfs_flat {n i d a : Nat} {l : List (Th n)} {s : mS} (hN : 170000 ≤ N) (hR : ∀ y, R y → y < 166300) (hd : d < 8) (h55 : s.1 55 = Int32.ofNat (d + 1)) (h52 : s.2.2.1 52 d = Int32.ofNat a) (h54 : s.2.2.1 54 d = Int32.ofNat i) (H : Wy (s.2.2.1 47) a (LayN (s.2.2.1 47) R) (vP n l)) (ha : a + wV wn (vP n l) ≤ 166300) (hi : i < l.length) (hk : ¬ kdV (vw ⟨n, l[i]⟩) = 3) (q : ∀ s1 : mS, s1.1 55 = Int32.ofNat (d + 1) → s1.2.2.1 52 d = Int32.ofNat a → s1.2.2.1 54 d = Int32.ofNat (i + 1) → s1.2.2.1 47 = s.2.2.1 47 → dfsR N n l (i + 1) d s1) : dfsR N n l i d s := by
  have hb := bulk_pos n l[i]
  have hst : ∀ f, mf_355_L1 N (f + 1) 0 s = mf_355_L1 N f 0 (mL (mA s 54 (upd (s.2.2.1 54) d (Int32.ofNat (i + 1)))) 89 (mx (s.2.1 89) (ser n l[i]))) := fun f => by
    cases hz : intT n l[i] with
    | some z =>
      have es : ser n l[i] = [0, z] := by
        rw [vw_ser ⟨n, l[i]⟩]
        have hz : intT n l[i] = some z := hz
        rw [vw_int ⟨n, l[i]⟩] at hz
        generalize vw ⟨n, l[i]⟩ = v at hz
        obtain y | r | q | l9 := v
        · cases hz
          rfl
        · cases hz
        · cases hz
        · cases hz
      rw [mt_int hd h55 h52 h54 H ha hi hz, es]
    | none => exact mt_plain hN hR hd h55 h52 h54 H ha hi hz hk
  refine dfs_tail hi hst (by omega) ?_ (fun j hj => ⟨rfl, if_neg (by omega)⟩) ⟨fun _ _ => rfl, fun q r => if_neg r, fun q r => if_neg (fun z => r (Or.inr (Or.inr z))), fun _ _ => rfl⟩ (q _ h55 h52 ?_ rfl)
  · generalize mx (s.2.1 89) (ser n l[i]) = w
    rfl
  · exact if_pos rfl
/-- all parts of the top from i on, and the top is gone -/
theorem r_dfs (hN : 170000 ≤ N) (hR : ∀ y, R y → y < 166300) : ∀ (n : Nat) (c i : Nat) (l : List (Th n)) (a d : Nat) (s : mS), i + c = l.length → d + n < 8 → s.1 55 = Int32.ofNat (d + 1) → s.2.2.1 52 d = Int32.ofNat a → s.2.2.1 54 d = Int32.ofNat i → Wy (s.2.2.1 47) a (LayN (s.2.2.1 47) R) (vP n l) → a + wV wn (vP n l) ≤ 166300 → dfsR N n l i d s := by
  intro n
  induction n with
  | zero =>
    intro c
    induction c with
    | zero =>
      intro i l a d s hi hd h55 h52 h54 H ha
      have hi : i = l.length := hi
      subst hi
      exact dfs_end (by omega) h55 h52 h54 H ha
    | succ c ih =>
      intro i l a d s hi hd h55 h52 h54 H ha
      have hi' : i < l.length := by omega
      refine dfs_flat hN hR (by omega) h55 h52 h54 H ha hi' ?_ (fun s1 a1 a2 a3 a4 => ih (i + 1) l a d s1 (by omega) hd a1 a2 a3 (by rw [a4]; exact H) ha)
      obtain z | r | q := l[i]
      · exact (show ¬ (0 : Int32) = 3 by decide)
      · exact (show ¬ (1 : Int32) = 3 by decide)
      · exact (show ¬ (2 : Int32) = 3 by decide)
  | succ n ihn =>
    intro c
    induction c with
    | zero =>
      intro i l a d s hi hd h55 h52 h54 H ha
      have hi : i = l.length := hi
      subst hi
      exact dfs_end (by omega) h55 h52 h54 H ha
    | succ c ih =>
      intro i l a d s hi hd h55 h52 h54 H ha
      have hi' : i < l.length := by omega
      by_cases hp : ∃ l' : List (Th n), l[i] = .inr l'
      · obtain ⟨l', hl⟩ := hp
        obtain ⟨c', s2, b1, b2, b3, b4, b5, b6, b7, b8, b9, b10, b11⟩ := mt_pack (N := N) (f := 0) hR (by omega) h55 h52 h54 H ha hi' hl
        have e47 : s2.2.2.1 47 = s.2.2.1 47 := b9.2.2.1 47 (by omega)
        obtain ⟨k, s3, r1, r2, r3, r4, r5, r6⟩ := ihn l'.length 0 l' c' (d + 1) s2 (Nat.zero_add _) (by omega) b2 b3 b4 (by rw [e47]; exact b10) b11
        have f47 : s3.2.2.1 47 = s.2.2.1 47 := (r6.2.2.1 47 (by omega)).trans e47
        rw [List.drop_zero] at r1 r4
        refine dfs_tail (k1 := k + 1) (s1 := s3) hi' (fun f => by rw [← Nat.add_assoc, b1, r2]) ?_ ?_ (fun j hj => ⟨(r5 j (by omega)).1.trans (b6 j (by omega)), (r5 j (by omega)).2.trans (b7 j hj)⟩) (b9.tr r6) (ih (i + 1) l a d s3 (by omega) hd r3 ((r5 d (by omega)).1.trans ((b6 d (by omega)).trans h52)) ((r5 d (by omega)).2.trans b5) (by rw [f47]; exact H) ha)
        · rw [hl]
          show k + 1 ≤ 2 * (1 + (l'.map (bulk n)).sum)
          omega
        · rw [r4, b8, hl]
          show _ = mx (s.2.1 89) ([3, Int32.ofNat l'.length] ++ l'.flatMap (ser n))
          rw [mx_app]
      · refine dfs_flat hN hR (by omega) h55 h52 h54 H ha hi' ?_ (fun s1 a1 a2 a3 a4 => ih (i + 1) l a d s1 (by omega) hd a1 a2 a3 (by rw [a4]; exact H) ha)
        revert hp
        generalize l[i] = y
        intro hp
        obtain p | l' := y
        · obtain z | r | q := p
          · exact (show ¬ (0 : Int32) = 3 by decide)
          · exact (show ¬ (1 : Int32) = 3 by decide)
          · exact (show ¬ (2 : Int32) = 3 by decide)
        · exact absurd ⟨l', rfl⟩ hp
end SV
end
-- ### 59.psum3.lean.txt
section
/-! ===== PURE: sum ===== -/
def serS : Option (Th 4) → List Int32
  | none => [-1]
  | some x => ser 4 x
def sl (S : Nat → Option (Th 4)) (i : Nat) : Nat → List Int32
  | 0 => []
  | d + 1 => serS (S i) ++ sl S (i + 1) d
section SW
variable {N : Nat} {X : Nat → Option zz_C} {R : Nat → Prop} {t : cS} {s : mS} {σ σ0 k j a : Nat} {μ : Nat → Nat} {S : Nat → Option (Th 4)} {ξ : List Int32}
theorem r_mixThing (hN : 170000 ≤ N) (hR : ∀ y, R y → y < 166300) {v : Vw} (hn : ∀ n l, v = vP n l → n < 8 ∧ 2 * (l.map (bulk n)).sum + 1 ≤ 2000) (H : Wy (s.2.2.1 47) a (LayN (s.2.2.1 47) R) v) (ha : a + wV wn v ≤ 166300) : ∃ s', mf_355 N (Int32.ofNat a) s = some (s', none) ∧ s'.2.1 89 = mx (s.2.1 89) (serV v) ∧ fD s s' := by
  obtain ⟨k1, k2, k3⟩ := H.kd
  unfold mf_355 mf_355_0
  rw [if_pos (gd rfl (by omega) (by decide)), i32c (m := a) (by omega), k1]
  by_cases hk : kdV v = 3
  · rw [if_pos hk]
    obtain z | r | q | ⟨n, l⟩ := v
    · exact H.elim
    · exact absurd hk (show ¬ (1 : Int32) = 3 by decide)
    · exact absurd hk (show ¬ (2 : Int32) = 3 by decide)
    · obtain ⟨hn1, hn2⟩ := hn n l rfl
      unfold mf_355_16
      rw [r_mix']
      show ∃ s', mf_355_21 N (Int32.ofNat a) (mL s 89 (mx (s.2.1 89) [3])) = _ ∧ _
      unfold mf_355_21
      rw [r_size (s := mL s 89 (mx (s.2.1 89) [3])) (v := vP n l) H ha]
      show ∃ s', mf_355_27 N (Int32.ofNat a) (Int32.ofNat l.length) (mL s 89 (mx (s.2.1 89) [3])) = _ ∧ _
      unfold mf_355_27
      rw [r_mix, ← mx_app]
      show ∃ s', mf_355_30 N (Int32.ofNat a) (mL s 89 (mx (s.2.1 89) [3, Int32.ofNat l.length])) = _ ∧ _
      obtain ⟨S3, hS3⟩ : ∃ S3, S3 = mL s 89 (mx (s.2.1 89) [3, Int32.ofNat l.length]) := ⟨_, rfl⟩
      rw [← hS3]
      unfold mf_355_30 mf_296 mf_296_0
      have e55 : (mI S3 55 0).1 55 = Int32.ofNat 0 := rfl
      rw [e55, if_pos (gd rfl (by omega) (by decide)), if_pos (gd rfl (by omega) (by decide)), if_pos (gd rfl (by omega) (by decide)), i32c (m := 0) (by omega), show Int32.ofNat 0 + 1 = Int32.ofNat (0 + 1) from i32al]
      obtain ⟨s2, hs2⟩ : ∃ s2, s2 = mI (mA (mA (mA (mI S3 55 0) 52 (upd ((mI S3 55 0).2.2.1 52) 0 (Int32.ofNat a))) 53 (upd ((mI S3 55 0).2.2.1 53) 0 0)) 54 (upd ((mI S3 55 0).2.2.1 54) 0 0)) 55 (Int32.ofNat (0 + 1)) := ⟨_, rfl⟩
      rw [← hs2]
      show ∃ s', mf_355_L1 N N 0 s2 = _ ∧ _
      have e47 : s2.2.2.1 47 = s.2.2.1 47 := by rw [hs2, hS3]; rfl
      have e89 : s2.2.1 89 = mx (s.2.1 89) [3, Int32.ofNat l.length] := by
        rw [hs2]
        show S3.2.1 89 = _
        rw [hS3]
        show (if (89 : Nat) = 89 then mx (s.2.1 89) [3, Int32.ofNat l.length] else s.2.1 89) = _
        rw [if_pos rfl]
      obtain ⟨c, s', r1, r2, r3, r4, r5, r6⟩ := r_dfs (N := N) hN hR n l.length 0 l a 0 s2 (Nat.zero_add _) (by omega) (by rw [hs2]; rfl) (by rw [hs2]; rfl) (by rw [hs2]; rfl) (by rw [e47]; exact H) ha
      rw [List.drop_zero] at r1 r4
      have r2 := r2 (N - c)
      rw [show N - c + c = N by omega] at r2
      obtain ⟨m, hm⟩ : ∃ m, N - c = m + 1 := ⟨N - c - 1, by omega⟩
      refine ⟨s', ?_, ?_, mfr.tr (s1 := s2) ⟨fun q r => ?_, fun q r => ?_, fun q r => ?_, fun q r => ?_⟩ r6⟩
      · rw [r2, hm]
        show mf_355_41 N (mf_355_L1 N m) s' = _
        unfold mf_355_41
        rw [r3, if_pos (show Int32.ofNat 0 ≤ 0 by decide)]
        rfl
      · rw [r4, e89, ← mx_app]
        rfl
      · rw [hs2]
        refine (if_neg r).trans ?_
        show (mI S3 55 0).1 q = _
        refine (if_neg r).trans ?_
        rw [hS3]
        rfl
      · rw [hs2]
        show S3.2.1 q = _
        rw [hS3]
        exact if_neg r
      · rw [hs2]
        show (if q = 54 then _ else if q = 53 then _ else if q = 52 then _ else S3.2.2.1 q) = _
        rw [if_neg (fun z => r (Or.inr (Or.inr z))), if_neg (fun z => r (Or.inr (Or.inl z))), if_neg (fun z => r (Or.inl z)), hS3]
        rfl
      · rw [hs2]
        show S3.2.2.2 q = _
        rw [hS3]
        rfl
  · rw [if_neg hk]
    unfold mf_355_10
    have e := r_mixPlain (s := s) (z := s.2.1 89) hN hR hk H ha
    rw [mL_id] at e
    rw [e]
    generalize mx (s.2.1 89) (serV v) = w
    exact ⟨mL s 89 w, rfl, rfl, ⟨fun _ _ => rfl, fun q r => if_neg r, fun _ _ => rfl, fun _ _ => rfl⟩⟩
theorem c_sumL (h0 : cS0 t σ) (hj : j < 8) (hl : ξ.length ≤ 1200) (h : cS1 t σ j ξ) : ∀ (d i f : Nat) (z : Int64), i + d = ξ.length → cf_28_L1 N X (f + (d + 1)) 0 σ (Int32.ofNat j) z (Int32.ofNat i) t = some (t, .inl (some (.long (mx z (ξ.drop i))))) := by
  obtain ⟨g1, g2, g3⟩ := h0
  obtain ⟨h1, h2, h3⟩ := h
  have ej : ¬ (Int32.ofNat j < 0 ∨ 8 ≤ j) := fun q => q.elim (i32n (by omega)) (by omega)
  have ej' : ¬ (Int32.ofNat j < 0 ∨ (kA t (2000000 + 20 * σ + 10)).1 ≤ j) := fun q => q.elim (i32n (by omega)) (by omega)
  intro d
  induction d with
  | zero =>
    intro i f z hi
    have hi : i = ξ.length := hi
    subst hi
    rw [List.drop_length]
    show cf_28_25 N X (cf_28_L1 N X f) σ (Int32.ofNat j) z (Int32.ofNat ξ.length) t = _
    unfold cf_28_25
    rw [if_pos g1, i32c (m := j) (by omega), if_pos ej', h1, if_pos ((i32le (by omega) (by omega)).mpr (Nat.le_refl _))]
    rfl
  | succ d ih =>
    intro i f z hi
    have hi' : i < ξ.length := by omega
    show cf_28_25 N X (cf_28_L1 N X (f + (d + 1))) σ (Int32.ofNat j) z (Int32.ofNat i) t = _
    unfold cf_28_25
    rw [if_pos g1, i32c (m := j) (by omega), if_pos ej', h1, if_neg (fun q => by have := (i32le (by omega) (by omega)).mp q; omega)]
    unfold cf_28_36
    rw [if_pos g1, i32c (m := j) (by omega), if_pos ej, i32c (m := i) (by omega), if_pos (fun q => q.elim (i32n (by omega)) (by omega)), h3 i hi', show Int32.ofNat i + 1 = Int32.ofNat (i + 1) from i32al, ih (i + 1) f _ (by omega), List.drop_eq_getElem_cons hi', mx_cons (l := ξ.drop (i + 1))]
    rfl
theorem c_sumOn (hN : 2000 ≤ N) (h0 : cS0 t σ) (hj : j < 8) {x : Option (Th 4)} (hl : (serO x).length ≤ 1200) (h : cS1 t σ j (serO x)) (z : Int64) : cf_28 N X σ (Int32.ofNat j) z t = some (t, .inl (some (.long (mx z (serS x))))) := by
  have h0' := h0
  have h' := h
  obtain ⟨g1, g2, g3⟩ := h0'
  obtain ⟨h1, h2, h3⟩ := h'
  have ej' : ¬ (Int32.ofNat j < 0 ∨ (kA t (2000000 + 20 * σ + 10)).1 ≤ j) := fun q => q.elim (i32n (by omega)) (by omega)
  unfold cf_28 cf_28_0
  rw [if_pos g1, i32c (m := j) (by omega), if_pos ej', h1]
  cases x with
  | none =>
    rw [if_neg (fun q => q rfl)]
    rfl
  | some y =>
    have hp : 0 < (serO (some y)).length := by
      obtain ⟨l, hl⟩ := ser_kd 4 y
      have hl : serO (some y) = kdT 4 y :: l := hl
      rw [hl]
      exact Nat.succ_pos _
    rw [if_pos (show ¬ Int32.ofNat (serO (some y)).length = 0 from fun q => by have := (i32eq (b := 0) (by omega) (by decide)).mp q; omega)]
    unfold cf_28_19
    have e := c_sumL (N := N) (X := X) h0 hj hl h (serO (some y)).length 0 (N - ((serO (some y)).length + 1)) z (Nat.zero_add _)
    rw [show N - ((serO (some y)).length + 1) + ((serO (some y)).length + 1) = N by omega, List.drop_zero] at e
    exact e
theorem c_sum (hN : 2000 ≤ N) (h : iS S σ0 k μ t s) : ∀ (d i f : Nat) (z : Int64), i + d = 8 → cf_20_L1 N X (f + (d + 1)) 0 z (Int32.ofNat i) t = some (t, .inl (some (.long (mx z (sl S i d))))) := by
  obtain ⟨h1, h2, h3, h4, ⟨h5, h50⟩, h6, h7, -⟩ := h
  intro d
  induction d with
  | zero =>
    intro i f z hi
    have hi : i = 8 := hi
    subst hi
    show cf_20_4 N X (cf_20_L1 N X f) z (Int32.ofNat 8) t = _
    unfold cf_20_4
    rw [if_pos (show (8 : Int32) ≤ Int32.ofNat 8 by decide)]
    rfl
  | succ d ih =>
    intro i f z hi
    show cf_20_4 N X (cf_20_L1 N X (f + (d + 1))) z (Int32.ofNat i) t = _
    unfold cf_20_4
    rw [if_neg (show ¬ (8 : Int32) ≤ Int32.ofNat i from fun q => by have := (i32le (a := 8) (by decide) (by omega)).mp q; omega)]
    unfold cf_20_10
    rw [h2]
    show (if kH t σ0 = true then _ else none) = _
    rw [if_pos h5.1, c_sumOn hN h5 (by omega) (serO_len (fun y hy => h7 i y hy)) (h6 i (by omega)).1 z]
    show cf_20_L1 N X (f + (d + 1)) 0 (mx z (serS (S i))) (Int32.ofNat i + 1) t = _
    rw [show Int32.ofNat i + 1 = Int32.ofNat (i + 1) from i32al, ih (i + 1) f _ (by omega), ← mx_app]
    rfl
theorem r_sum (hN : 170000 ≤ N) (hw : ∀ j x, S j = some x → wfT 4 x) : ∀ (d i : Nat) (s : mS), i + d = 8 → (∀ j, j < 8 → rSl (s.2.2.1 47) j (S j)) → ∃ s', (∀ f, mf_86_L1 N (f + (d + 1)) 0 (Int32.ofNat i) s = some (s', some (.long (mx (s.2.1 89) (sl S i d))))) ∧ fD s s' := by
  intro d
  induction d with
  | zero =>
    intro i s hi hs
    have hi : i = 8 := hi
    subst hi
    refine ⟨s, fun f => ?_, mfr.rf⟩
    show mf_86_7 N (mf_86_L1 N f) (Int32.ofNat 8) s = _
    unfold mf_86_7
    rw [if_pos (show (8 : Int32) ≤ Int32.ofNat 8 by decide)]
    rfl
  | succ d ih =>
    intro i s hi hs
    obtain ⟨i1, i2, i3⟩ := slot_ix (j := i) (by omega)
    have hsi := hs i (by omega)
    have hd := hsi.hd
    have key : ∃ s1, (∀ rc, mf_86_13 N rc (Int32.ofNat i) s = rc 0 (Int32.ofNat (i + 1)) s1) ∧ s1.2.1 89 = mx (s.2.1 89) (serS (S i)) ∧ fD s s1 := by
      have en : Int32.ofNat i + 1 = Int32.ofNat (i + 1) := i32al
      cases hS : S i with
      | none =>
        rw [hS] at hd
        generalize hw9 : mx (s.2.1 89) [-1] = w
        refine ⟨mL s 89 w, fun rc => ?_, ?_, ⟨fun _ _ => rfl, fun q r => if_neg r, fun _ _ => rfl, fun _ _ => rfl⟩⟩
        · unfold mf_86_13
          rw [if_pos i2, i1, hd, if_neg (fun q => q rfl)]
          unfold mf_86_27
          rw [r_mix', hw9]
          show rc 0 (Int32.ofNat i + 1) (mL s 89 w) = _
          rw [en]
        · show w = mx (s.2.1 89) [-1]
          exact hw9.symm
      | some x =>
        rw [hS] at hd hsi
        have hv := vw_kd ⟨4, x⟩
        have hd : s.2.2.1 47 (2410 * i) = kdT 4 x := hd
        have hne : ¬ kdT 4 x = -1 := by
          rw [show kdT 4 x = kdV (vw ⟨4, x⟩) from hv]
          generalize vw ⟨4, x⟩ = v
          obtain y | r | q | l := v
          · exact (show ¬ (0 : Int32) = -1 by decide)
          · exact (show ¬ (1 : Int32) = -1 by decide)
          · exact (show ¬ (2 : Int32) = -1 by decide)
          · exact (show ¬ (3 : Int32) = -1 by decide)
        have h13 : ∀ rc, mf_86_13 N rc (Int32.ofNat i) s = mf_86_35 N rc (Int32.ofNat i) s := fun rc => by
          unfold mf_86_13
          rw [if_pos i2, i1, hd, if_pos hne]
        unfold rSl at hsi
        dsimp only at hsi
        cases hz : intT 4 x with
        | some z =>
          rw [hz] at hsi
          obtain ⟨z1, z2⟩ := hsi
          generalize hw9 : mx (s.2.1 89) [0, z] = w
          refine ⟨mL s 89 w, fun rc => ?_, ?_, ⟨fun _ _ => rfl, fun q r => if_neg r, fun _ _ => rfl, fun _ _ => rfl⟩⟩
          · rw [h13]
            unfold mf_86_35
            rw [if_pos i2, i1, z1, if_neg (fun q => q rfl)]
            unfold mf_86_48
            rw [r_mix']
            show mf_86_53 N rc (Int32.ofNat i) (mL s 89 (mx (s.2.1 89) [0])) = _
            unfold mf_86_53
            have e1 : (2410 : Int32) * Int32.ofNat i + 1 = Int32.ofNat (2410 * i + 1) := by rw [i3]; exact i32al
            have e2 : (mL s 89 (mx (s.2.1 89) [0])).2.2.1 47 (2410 * i + 1) = z := z2
            rw [if_pos (gd e1 (by omega) (by decide)), cl e1 (by omega), e2, r_mix, ← mx_app]
            show mo_bv (some (mL s 89 (mx (s.2.1 89) [0, z]), none)) _ = _
            rw [hw9]
            show rc 0 (Int32.ofNat i + 1) (mL s 89 w) = _
            rw [en]
          · show w = mx (s.2.1 89) (ser 4 x)
            rw [int_ser hz]
            exact hw9.symm
        | none =>
          rw [hz] at hsi
          have hsi : LayN (s.2.2.1 47) (Rk i) (2410 * i) ⟨4, x⟩ := hsi
          obtain ⟨L1, L2⟩ := LayN_iff.mp hsi
          obtain ⟨-, -, k3⟩ := L2.kd
          have hR : ∀ y, Rk i y → y < 166300 := fun y hy => by have := hy.2; omega
          have hc : 2410 * i + wV wn (vw ⟨4, x⟩) ≤ 166300 := by
            have := hR _ (L1 (2410 * i + wV wn (vw ⟨4, x⟩) - 1) (by omega) (by omega))
            omega
          have hb := bulk_wf 4 x (hw i x hS)
          obtain ⟨s1, r1, r2, r3⟩ := r_mixThing (N := N) (s := s) (R := Rk i) hN hR (fun n l e => by
            revert e hb
            generalize x = x
            intro hb e
            obtain p | l' := x
            · obtain y | r | q := p <;> cases e
            · cases e
              have hb : 1 + (l'.map (bulk 3)).sum ≤ 600 := hb
              exact ⟨by decide, by show 2 * (l'.map (bulk 3)).sum + 1 ≤ 2000; omega⟩) L2 hc
          refine ⟨s1, fun rc => ?_, ?_, r3⟩
          · rw [h13]
            unfold mf_86_35
            rw [if_pos i2, i1, hd, if_pos (show ¬ kdT 4 x = 0 from fun q => by
              rw [show kdT 4 x = kdV (vw ⟨4, x⟩) from hv] at q
              rw [show intT 4 x = intV (vw ⟨4, x⟩) from vw_int ⟨4, x⟩] at hz
              revert q hz
              generalize vw ⟨4, x⟩ = v
              intro hz q
              obtain y | r | q' | l := v
              · cases hz
              · exact absurd q (show ¬ (1 : Int32) = 0 by decide)
              · exact absurd q (show ¬ (2 : Int32) = 0 by decide)
              · exact absurd q (show ¬ (3 : Int32) = 0 by decide))]
            unfold mf_86_72
            rw [i3, r1]
            show rc 0 (Int32.ofNat i + 1) s1 = _
            rw [en]
          · rw [r2, ← vw_ser ⟨4, x⟩]
            rfl
    obtain ⟨s1, q1, q2, q3⟩ := key
    have e47 : s1.2.2.1 47 = s.2.2.1 47 := q3.2.2.1 47 (by omega)
    obtain ⟨s', r1, r2⟩ := ih (i + 1) s1 (by omega) (fun j hj => by rw [e47]; exact hs j hj)
    refine ⟨s', fun f => ?_, q3.tr r2⟩
    show mf_86_7 N (mf_86_L1 N (f + (d + 1))) (Int32.ofNat i) s = _
    unfold mf_86_7
    rw [if_neg (show ¬ (8 : Int32) ≤ Int32.ofNat i from fun q => by have := (i32le (a := 8) (by decide) (by omega)).mp q; omega), q1, r1 f, q2, ← mx_app]
    rfl
theorem p_sum (hN : 170000 ≤ N) (h : iS S σ0 k μ t s) : ∃ s', ∃ v : Int64, cf_20 N X t = some (t, .inl (some (.long v))) ∧ mf_86 N s = some (s', some (.long v)) ∧ fD s s' := by
  have h' := h
  obtain ⟨h1, h2, h3, h4, ⟨h5, h50⟩, h6, h7, -⟩ := h'
  obtain ⟨s', r1, r2⟩ := r_sum (N := N) (S := S) hN h7 8 0 (mL s 89 0) rfl (fun j hj => (h6 j hj).2)
  have r1 := r1 (N - 9)
  rw [show N - 9 + (8 + 1) = N by omega] at r1
  have c1 := c_sum (N := N) (X := X) (by omega) h 8 0 (N - 9) 0 rfl
  rw [show N - 9 + (8 + 1) = N by omega] at c1
  refine ⟨s', mx 0 (sl S 0 8), c1, r1, mfr.tr (s1 := mL s 89 0) ⟨fun _ _ => rfl, fun q r => if_neg r, fun _ _ => rfl, fun _ _ => rfl⟩ r2⟩
end SW
end
-- ### 60.psame.lean.txt
section
/-! ===== PURE: same (the class's) ===== -/
section SX
variable {N : Nat} {X : Nat → Option zz_C} {t : cS} {σ j j' : Nat} {ξ η : List Int32}
theorem c_al0 (h0 : cS0 t σ) (hj : j < 8) (f : Nat) (b x4 : Int32) : cf_27_L1 N X (f + 1) 0 σ (Int32.ofNat j) b 0 x4 t = some (t, .inl (some (.int 0))) := by
  obtain ⟨g1, g2, g3⟩ := h0
  show cf_27_24 N X (cf_27_L1 N X f) σ (Int32.ofNat j) b 0 x4 t = _
  unfold cf_27_24
  rw [if_pos g1, i32c (m := j) (by omega), if_pos (fun q => q.elim (i32n (by omega)) (by omega))]
  split
  · rfl
  · unfold cf_27_35
    rw [if_pos rfl]
    rfl
theorem c_alL (h0 : cS0 t σ) (hj : j < 8) (hj' : j' < 8) (h : cS1 t σ j ξ) (h' : cS1 t σ j' η) (hl : ξ.length = η.length) (h12 : ξ.length ≤ 1200) : ∀ (d i f : Nat), i + d = ξ.length → cf_27_L1 N X (f + (d + 1)) 0 σ (Int32.ofNat j) (Int32.ofNat j') 1 (Int32.ofNat i) t = some (t, .inl (some (.int (if ξ.drop i = η.drop i then 1 else 0)))) := by
  have h0' := h0
  obtain ⟨g1, g2, g3⟩ := h0'
  obtain ⟨h1, h2, h3⟩ := h
  obtain ⟨k1, k2, k3⟩ := h'
  intro d
  induction d with
  | zero =>
    intro i f hi
    have hi : i = ξ.length := hi
    subst hi
    rw [List.drop_length, hl, List.drop_length, if_pos rfl]
    show cf_27_24 N X (cf_27_L1 N X f) σ (Int32.ofNat j) (Int32.ofNat j') 1 (Int32.ofNat η.length) t = _
    unfold cf_27_24
    rw [if_pos g1, i32c (m := j) (by omega), if_pos (fun q => q.elim (i32n (by omega)) (by omega)), h1, if_pos ((i32le (by omega) (by omega)).mpr (by omega))]
    rfl
  | succ d ih =>
    intro i f hi
    have hi' : i < ξ.length := by omega
    show cf_27_24 N X (cf_27_L1 N X (f + (d + 1))) σ (Int32.ofNat j) (Int32.ofNat j') 1 (Int32.ofNat i) t = _
    unfold cf_27_24
    rw [if_pos g1, i32c (m := j) (by omega), if_pos (fun q => q.elim (i32n (by omega)) (by omega)), h1, if_neg (fun q => by have := (i32le (by omega) (by omega)).mp q; omega)]
    unfold cf_27_35
    rw [if_neg (by decide)]
    unfold cf_27_39
    rw [if_pos g1, i32c (m := j) (by omega), if_pos (fun q => q.elim (i32n (by omega)) (by omega)), i32c (m := i) (by omega), if_pos (fun q => q.elim (i32n (by omega)) (by omega)), i32c (m := j') (by omega), if_pos (fun q => q.elim (i32n (by omega)) (by omega)), if_pos (fun q => q.elim (i32n (by omega)) (by omega)), h3 i hi', k3 i (by omega), List.drop_eq_getElem_cons hi', List.drop_eq_getElem_cons (show i < η.length by omega)]
    by_cases e : ξ[i] = η[i]'(by omega)
    · rw [if_neg (fun q => q e)]
      show cf_27_L1 N X (f + (d + 1)) 0 σ (Int32.ofNat j) (Int32.ofNat j') 1 (Int32.ofNat i + 1) t = _
      rw [show Int32.ofNat i + 1 = Int32.ofNat (i + 1) from i32al, ih (i + 1) f (by omega), e]
      by_cases c : ξ.drop (i + 1) = η.drop (i + 1)
      · rw [if_pos c, if_pos (by rw [c])]
      · rw [if_neg c, if_neg (fun q => c (List.cons.inj q).2)]
    · rw [if_pos e, if_neg (fun q => e (List.cons.inj q).1)]
      exact c_al0 h0 hj (f + d) _ _
theorem c_alike (hN : 2000 ≤ N) (h0 : cS0 t σ) (hj : j < 8) (hj' : j' < 8) (h : cS1 t σ j ξ) (h' : cS1 t σ j' η) (h12 : ξ.length ≤ 1200) (h12' : η.length ≤ 1200) : cf_27 N X σ (Int32.ofNat j) (Int32.ofNat j') t = some (t, .inl (some (.int (if ξ = η then 1 else 0)))) := by
  have h0' := h0
  obtain ⟨g1, g2, g3⟩ := h0'
  have a1 := h.1
  have a2 := h'.1
  unfold cf_27 cf_27_0
  rw [if_pos g1, i32c (m := j) (by omega), if_pos (fun q => q.elim (i32n (by omega)) (by omega)), i32c (m := j') (by omega), if_pos (fun q => q.elim (i32n (by omega)) (by omega)), a1, a2]
  by_cases c : ξ.length = η.length
  · rw [if_neg (fun q => q (by rw [c]))]
    have e := c_alL (N := N) (X := X) h0 hj hj' h h' c h12 ξ.length 0 (N - (ξ.length + 1)) (Nat.zero_add _)
    rw [show N - (ξ.length + 1) + (ξ.length + 1) = N by omega, List.drop_zero, List.drop_zero] at e
    exact e
  · rw [if_pos (fun q => c ((i32eq (by omega) (by omega)).mp q)), if_neg (fun q => c (by rw [q]))]
    have e := c_al0 (N := N) (X := X) h0 hj (N - 1) (Int32.ofNat j') 0
    rw [show N - 1 + 1 = N by omega] at e
    exact e
end SX
end
-- ### 61.psame2.lean.txt
section
/-! ===== PURE: same (the reference's): ROWS ===== -/
section SY
variable {N : Nat} {s : mS} {a b : Nat} {P P' : Nat → Nod → Prop} {r r' : List Int32}
theorem r_sr0 (f : Nat) (x1 x2 x4 : Int32) : mf_344_L1 N (f + 1) 0 x1 x2 0 x4 s = some (s, some (.int 0)) := by
  show mf_344_22 N (mf_344_L1 N f) x1 x2 0 x4 s = _
  unfold mf_344_22
  rw [if_pos rfl]
  rfl
theorem r_srL (H : Wy (s.2.2.1 47) a P (vR r)) (ha : a + wV wn (vR r) ≤ 166300) (H' : Wy (s.2.2.1 47) b P' (vR r')) (hb : b + wV wn (vR r') ≤ 166300) (hl : r.length = r'.length) : ∀ (d i f : Nat), i + d = r.length → mf_344_L1 N (f + (d + 1)) 0 (Int32.ofNat a) (Int32.ofNat b) 1 (Int32.ofNat i) s = some (s, some (.int (if r.drop i = r'.drop i then 1 else 0))) := by
  have hw : a + (2 + r.length) ≤ 166300 := ha
  have hw' : b + (2 + r'.length) ≤ 166300 := hb
  have h22 : ∀ rc i, mf_344_22 N rc (Int32.ofNat a) (Int32.ofNat b) 1 (Int32.ofNat i) s = mf_344_33 N rc (Int32.ofNat a) (Int32.ofNat b) 1 (Int32.ofNat i) (Int32.ofNat i) (Int32.ofNat r.length) s := fun rc i => by
    unfold mf_344_22
    rw [if_neg (by decide)]
    unfold mf_344_26
    rw [r_size H ha]
    rfl
  intro d
  induction d with
  | zero =>
    intro i f hi
    have hi : i = r.length := hi
    subst hi
    rw [List.drop_length, hl, List.drop_length, if_pos rfl]
    show mf_344_22 N (mf_344_L1 N f) (Int32.ofNat a) (Int32.ofNat b) 1 (Int32.ofNat r'.length) s = _
    rw [h22]
    unfold mf_344_33
    rw [if_pos ((i32le (by omega) (by omega)).mpr (by omega))]
    rfl
  | succ d ih =>
    intro i f hi
    have hi' : i < r.length := by omega
    show mf_344_22 N (mf_344_L1 N (f + (d + 1))) (Int32.ofNat a) (Int32.ofNat b) 1 (Int32.ofNat i) s = _
    rw [h22]
    unfold mf_344_33
    rw [if_neg (fun q => by have := (i32le (by omega) (by omega)).mp q; omega)]
    unfold mf_344_36
    have e1 : Int32.ofNat a + 2 + Int32.ofNat i = Int32.ofNat (a + 2 + i) := by
      rw [show Int32.ofNat a + 2 = Int32.ofNat (a + 2) from i32al, i32add]
    have e2 : Int32.ofNat b + 2 + Int32.ofNat i = Int32.ofNat (b + 2 + i) := by
      rw [show Int32.ofNat b + 2 = Int32.ofNat (b + 2) from i32al, i32add]
    rw [if_pos (gd e1 (by omega) (by decide)), if_pos (gd e2 (by omega) (by decide)), cl e1 (by omega), cl e2 (by omega), H.2.2 i hi', H'.2.2 i (by omega), List.drop_eq_getElem_cons hi', List.drop_eq_getElem_cons (show i < r'.length by omega)]
    by_cases e : r[i] = r'[i]'(by omega)
    · rw [if_neg (fun q => q e)]
      show mf_344_L1 N (f + (d + 1)) 0 (Int32.ofNat a) (Int32.ofNat b) 1 (Int32.ofNat i + 1) s = _
      rw [show Int32.ofNat i + 1 = Int32.ofNat (i + 1) from i32al, ih (i + 1) f (by omega), e]
      by_cases c : r.drop (i + 1) = r'.drop (i + 1)
      · rw [if_pos c, if_pos (by rw [c])]
      · rw [if_neg c, if_neg (fun q => c (List.cons.inj q).2)]
    · rw [if_pos e, if_neg (fun q => e (List.cons.inj q).1)]
      exact r_sr0 (N := N) (s := s) (f + d) (Int32.ofNat a) (Int32.ofNat b) (Int32.ofNat i + 1)
theorem r_sameRows (hN : 170000 ≤ N) (H : Wy (s.2.2.1 47) a P (vR r)) (ha : a + wV wn (vR r) ≤ 166300) (H' : Wy (s.2.2.1 47) b P' (vR r')) (hb : b + wV wn (vR r') ≤ 166300) : mf_344 N (Int32.ofNat a) (Int32.ofNat b) s = some (s, some (.int (if r = r' then 1 else 0))) := by
  have hw : a + (2 + r.length) ≤ 166300 := ha
  have hw' : b + (2 + r'.length) ≤ 166300 := hb
  unfold mf_344 mf_344_0
  rw [r_size H ha]
  show mf_344_5 N (Int32.ofNat a) (Int32.ofNat b) (Int32.ofNat r.length) s = _
  unfold mf_344_5
  rw [r_size H' hb]
  show mf_344_10 N (Int32.ofNat a) (Int32.ofNat b) (Int32.ofNat r.length) (Int32.ofNat r'.length) s = _
  unfold mf_344_10
  by_cases c : r.length = r'.length
  · rw [if_neg (fun q => q (by rw [c]))]
    have e := r_srL (N := N) H ha H' hb c r.length 0 (N - (r.length + 1)) (Nat.zero_add _)
    rw [show N - (r.length + 1) + (r.length + 1) = N by omega, List.drop_zero, List.drop_zero] at e
    exact e
  · rw [if_pos (fun q => c ((i32eq (by omega) (by omega)).mp q)), if_neg (fun q => c (by rw [q]))]
    have e := r_sr0 (N := N) (s := s) (N - 1) (Int32.ofNat a) (Int32.ofNat b) 0
    rw [show N - 1 + 1 = N by omega] at e
    exact e
end SY
end
-- ### 62.pure.lean.txt
section
/-! ===== PURE: evaluation's rows ===== -/
theorem l32_0 : (0 : Int32) = Int32.ofNat 0 := rfl
theorem l32_1 : (1 : Int32) = Int32.ofNat 1 := rfl
theorem l32_2 : (2 : Int32) = Int32.ofNat 2 := rfl
theorem l32_3 : (3 : Int32) = Int32.ofNat 3 := rfl
theorem l32_4 : (4 : Int32) = Int32.ofNat 4 := rfl
theorem l32_5 : (5 : Int32) = Int32.ofNat 5 := rfl
theorem l32_6 : (6 : Int32) = Int32.ofNat 6 := rfl
theorem l32_7 : (7 : Int32) = Int32.ofNat 7 := rfl
theorem l32_8 : (8 : Int32) = Int32.ofNat 8 := rfl
theorem l32_9 : (9 : Int32) = Int32.ofNat 9 := rfl
theorem l32_10 : (10 : Int32) = Int32.ofNat 10 := rfl
theorem l32_11 : (11 : Int32) = Int32.ofNat 11 := rfl
theorem l32_12 : (12 : Int32) = Int32.ofNat 12 := rfl
theorem l32_13 : (13 : Int32) = Int32.ofNat 13 := rfl
theorem l32_14 : (14 : Int32) = Int32.ofNat 14 := rfl
theorem l32_15 : (15 : Int32) = Int32.ofNat 15 := rfl
theorem l32_16 : (16 : Int32) = Int32.ofNat 16 := rfl
theorem l32_17 : (17 : Int32) = Int32.ofNat 17 := rfl
theorem l32_18 : (18 : Int32) = Int32.ofNat 18 := rfl
theorem l32_19 : (19 : Int32) = Int32.ofNat 19 := rfl
theorem l32_20 : (20 : Int32) = Int32.ofNat 20 := rfl
theorem l32_21 : (21 : Int32) = Int32.ofNat 21 := rfl
theorem l32_22 : (22 : Int32) = Int32.ofNat 22 := rfl
theorem l32_23 : (23 : Int32) = Int32.ofNat 23 := rfl
theorem l32_24 : (24 : Int32) = Int32.ofNat 24 := rfl
theorem l32_25 : (25 : Int32) = Int32.ofNat 25 := rfl
theorem l32_26 : (26 : Int32) = Int32.ofNat 26 := rfl
theorem l32_27 : (27 : Int32) = Int32.ofNat 27 := rfl
theorem l32_28 : (28 : Int32) = Int32.ofNat 28 := rfl
theorem l32_29 : (29 : Int32) = Int32.ofNat 29 := rfl
theorem l32_30 : (30 : Int32) = Int32.ofNat 30 := rfl
theorem l32_31 : (31 : Int32) = Int32.ofNat 31 := rfl
theorem l32_32 : (32 : Int32) = Int32.ofNat 32 := rfl
theorem l32_33 : (33 : Int32) = Int32.ofNat 33 := rfl
theorem l32_34 : (34 : Int32) = Int32.ofNat 34 := rfl
theorem l32_35 : (35 : Int32) = Int32.ofNat 35 := rfl
theorem l32_36 : (36 : Int32) = Int32.ofNat 36 := rfl
theorem l32_37 : (37 : Int32) = Int32.ofNat 37 := rfl
theorem l32_38 : (38 : Int32) = Int32.ofNat 38 := rfl
theorem l32_39 : (39 : Int32) = Int32.ofNat 39 := rfl
theorem l32_40 : (40 : Int32) = Int32.ofNat 40 := rfl
theorem l32_41 : (41 : Int32) = Int32.ofNat 41 := rfl
theorem l32_42 : (42 : Int32) = Int32.ofNat 42 := rfl
theorem l32_43 : (43 : Int32) = Int32.ofNat 43 := rfl
theorem l32_44 : (44 : Int32) = Int32.ofNat 44 := rfl
theorem l32_45 : (45 : Int32) = Int32.ofNat 45 := rfl
theorem l32_46 : (46 : Int32) = Int32.ofNat 46 := rfl
theorem l32_47 : (47 : Int32) = Int32.ofNat 47 := rfl
theorem l32_48 : (48 : Int32) = Int32.ofNat 48 := rfl
theorem l32_49 : (49 : Int32) = Int32.ofNat 49 := rfl
theorem l32_50 : (50 : Int32) = Int32.ofNat 50 := rfl
theorem l32_51 : (51 : Int32) = Int32.ofNat 51 := rfl
theorem l32_52 : (52 : Int32) = Int32.ofNat 52 := rfl
theorem l32_53 : (53 : Int32) = Int32.ofNat 53 := rfl
theorem l32_54 : (54 : Int32) = Int32.ofNat 54 := rfl
theorem l32_55 : (55 : Int32) = Int32.ofNat 55 := rfl
theorem l32_56 : (56 : Int32) = Int32.ofNat 56 := rfl
theorem l32_57 : (57 : Int32) = Int32.ofNat 57 := rfl
theorem l32_58 : (58 : Int32) = Int32.ofNat 58 := rfl
theorem l32_59 : (59 : Int32) = Int32.ofNat 59 := rfl
theorem l32_60 : (60 : Int32) = Int32.ofNat 60 := rfl
theorem l32_61 : (61 : Int32) = Int32.ofNat 61 := rfl
theorem l32_62 : (62 : Int32) = Int32.ofNat 62 := rfl
theorem l32_63 : (63 : Int32) = Int32.ofNat 63 := rfl
theorem l32_64 : (64 : Int32) = Int32.ofNat 64 := rfl
theorem l32_65 : (65 : Int32) = Int32.ofNat 65 := rfl
theorem l32_91 : (91 : Int32) = Int32.ofNat 91 := rfl
theorem l32_93 : (93 : Int32) = Int32.ofNat 93 := rfl
theorem l32_94 : (94 : Int32) = Int32.ofNat 94 := rfl
theorem l32_96 : (96 : Int32) = Int32.ofNat 96 := rfl
theorem l32_97 : (97 : Int32) = Int32.ofNat 97 := rfl
theorem l32_100 : (100 : Int32) = Int32.ofNat 100 := rfl
theorem l32_122 : (122 : Int32) = Int32.ofNat 122 := rfl
theorem l32_123 : (123 : Int32) = Int32.ofNat 123 := rfl
theorem l32_124 : (124 : Int32) = Int32.ofNat 124 := rfl
theorem l32_125 : (125 : Int32) = Int32.ofNat 125 := rfl
theorem l32_128 : (128 : Int32) = Int32.ofNat 128 := rfl
theorem l32_140 : (140 : Int32) = Int32.ofNat 140 := rfl
theorem l32_200 : (200 : Int32) = Int32.ofNat 200 := rfl
theorem l32_255 : (255 : Int32) = Int32.ofNat 255 := rfl
theorem l32_256 : (256 : Int32) = Int32.ofNat 256 := rfl
theorem l32_257 : (257 : Int32) = Int32.ofNat 257 := rfl
theorem l32_258 : (258 : Int32) = Int32.ofNat 258 := rfl
theorem l32_259 : (259 : Int32) = Int32.ofNat 259 := rfl
theorem l32_289 : (289 : Int32) = Int32.ofNat 289 := rfl
theorem l32_316 : (316 : Int32) = Int32.ofNat 316 := rfl
theorem l32_317 : (317 : Int32) = Int32.ofNat 317 := rfl
theorem l32_318 : (318 : Int32) = Int32.ofNat 318 := rfl
theorem l32_400 : (400 : Int32) = Int32.ofNat 400 := rfl
theorem l32_600 : (600 : Int32) = Int32.ofNat 600 := rfl
theorem l32_700 : (700 : Int32) = Int32.ofNat 700 := rfl
theorem l32_800 : (800 : Int32) = Int32.ofNat 800 := rfl
theorem l32_1200 : (1200 : Int32) = Int32.ofNat 1200 := rfl
theorem l32_1600 : (1600 : Int32) = Int32.ofNat 1600 := rfl
theorem l32_1620 : (1620 : Int32) = Int32.ofNat 1620 := rfl
theorem l32_2000 : (2000 : Int32) = Int32.ofNat 2000 := rfl
theorem l32_2410 : (2410 : Int32) = Int32.ofNat 2410 := rfl
theorem l32_3000 : (3000 : Int32) = Int32.ofNat 3000 := rfl
theorem l32_4000 : (4000 : Int32) = Int32.ofNat 4000 := rfl
theorem l32_8000 : (8000 : Int32) = Int32.ofNat 8000 := rfl
theorem l32_9000 : (9000 : Int32) = Int32.ofNat 9000 := rfl
theorem l32_20000 : (20000 : Int32) = Int32.ofNat 20000 := rfl
theorem l32_154240 : (154240 : Int32) = Int32.ofNat 154240 := rfl
theorem l32_154250 : (154250 : Int32) = Int32.ofNat 154250 := rfl
theorem l32_166300 : (166300 : Int32) = Int32.ofNat 166300 := rfl
theorem ev_c {m : Nat} (h : m < 2147483648) : (Int32.ofNat m).toNatClampNeg = m := i32c h
theorem ev_lt {a b : Nat} (ha : a < 2147483648) (hb : b < 2147483648) : (Int32.ofNat a < Int32.ofNat b) = (a < b) := propext (i32lt ha hb)
theorem ev_le {a b : Nat} (ha : a < 2147483648) (hb : b < 2147483648) : (Int32.ofNat a ≤ Int32.ofNat b) = (a ≤ b) := propext (i32le ha hb)
theorem ev_eq {a b : Nat} (ha : a < 2147483648) (hb : b < 2147483648) : (Int32.ofNat a = Int32.ofNat b) = (a = b) := propext (i32eq ha hb)
theorem ev_sub {a b : Nat} (h : b ≤ a) : Int32.ofNat a - Int32.ofNat b = Int32.ofNat (a - b) := by
  have e : Int32.ofNat a = Int32.ofNat (a - b) + Int32.ofNat b := by rw [i32add, Nat.sub_add_cancel h]
  rw [e, Int32.add_sub_cancel]
theorem ev_leT {a b : Nat} (h : a ≤ b) : (a ≤ b) = True := eq_true h
theorem ev_leF {a b : Nat} (h : b < a) : (a ≤ b) = False := eq_false (by omega)
theorem ev_ltT {a b : Nat} (h : a < b) : (a < b) = True := eq_true h
theorem ev_ltF {a b : Nat} (h : b ≤ a) : (a < b) = False := eq_false (by omega)
theorem ev_eqT {a b : Nat} (h : a = b) : (a = b) = True := eq_true h
theorem ev_eqF {a b : Nat} (h : ¬ a = b) : (a = b) = False := eq_false h
theorem ev_bi {s : mS} {y : Int32} {g : mS → Int32 → mO} : mo_bi (some (s, some (.int y))) g = g s y := rfl
theorem ev_bl {s : mS} {y : Int64} {g : mS → Int64 → mO} : mo_bl (some (s, some (.long y))) g = g s y := rfl
theorem ev_bv {s : mS} {g : mS → mO} : mo_bv (some (s, none)) g = g s := rfl
theorem ev_kc {nn : Int} {t : cS} {v : Option Value} {g : cS → Option Value → kO} : ko_call nn (some (t, .inl v)) g = g t v := rfl
theorem ev_cv {g : kO} : co_v none g = g := rfl
theorem ev_ci {y : Int32} {g : Int32 → kO} : co_i (some (.int y)) g = g y := rfl
theorem ev_cl {y : Int64} {g : Int64 → kO} : co_l (some (.long y)) g = g y := rfl
theorem ev_cr {y : Nat} {g : Nat → kO} : co_r (some (.ref y)) g = g y := rfl
theorem ev_b {α β : Type} {a : α} {g : α → Option β} : co_b (some a) g = g a := rfl
theorem ev_rb0 : zz_reti (some .boolean) (Int32.ofNat 0) = true := rfl
theorem ev_rb1 : zz_reti (some .boolean) (Int32.ofNat 1) = true := rfl
theorem ev_ri {c : Prop} [Decidable c] : zz_reti (some .boolean) (if c then Int32.ofNat 1 else Int32.ofNat 0) = true := by
  split <;> rfl
theorem ev_m1 : (-Int32.ofNat 1).toInt = -1 := by decide
theorem ev_n1 {a : Nat} (h : a < 2147483648) : (-Int32.ofNat 1 < Int32.ofNat a) = True := eq_true (by
  rw [Int32.lt_iff_toInt_lt, i32t h, ev_m1]
  omega)
theorem ev_n2 {a : Nat} (h : a < 2147483648) : (-Int32.ofNat 1 ≤ Int32.ofNat a) = True := eq_true (by
  rw [Int32.le_iff_toInt_le, i32t h, ev_m1]
  omega)
theorem ev_n3 {a : Nat} (h : a < 2147483648) : (Int32.ofNat a < -Int32.ofNat 1) = False := eq_false (by
  rw [Int32.lt_iff_toInt_lt, i32t h, ev_m1]
  omega)
theorem ev_n4 {a : Nat} (h : a < 2147483648) : (Int32.ofNat a ≤ -Int32.ofNat 1) = False := eq_false (by
  rw [Int32.le_iff_toInt_le, i32t h, ev_m1]
  omega)
theorem ev_n5 {a : Nat} (h : a < 2147483648) : (Int32.ofNat a = -Int32.ofNat 1) = False := eq_false (fun q => by
  have := congrArg Int32.toInt q
  rw [i32t h, ev_m1] at this
  omega)
theorem ev_n6 {a : Nat} (h : a < 2147483648) : (-Int32.ofNat 1 = Int32.ofNat a) = False := eq_false (fun q => by
  have := congrArg Int32.toInt q
  rw [i32t h, ev_m1] at this
  omega)
theorem ev_S : (∀ {m : Nat}, m < 2147483648 → (Int32.ofNat m).toNatClampNeg = m) ∧ (∀ {a b : Nat}, a < 2147483648 → b < 2147483648 → (Int32.ofNat a < Int32.ofNat b) = (a < b)) ∧ (∀ {a b : Nat}, a < 2147483648 → b < 2147483648 → (Int32.ofNat a ≤ Int32.ofNat b) = (a ≤ b)) ∧ (∀ {a b : Nat}, a < 2147483648 → b < 2147483648 → (Int32.ofNat a = Int32.ofNat b) = (a = b)) ∧ (∀ {a b : Nat}, b ≤ a → Int32.ofNat a - Int32.ofNat b = Int32.ofNat (a - b)) ∧ (∀ {a b : Nat}, Int32.ofNat a + Int32.ofNat b = Int32.ofNat (a + b)) ∧ (∀ {a b : Nat}, Int32.ofNat a * Int32.ofNat b = Int32.ofNat (a * b)) ∧ (∀ {a b : Nat}, a ≤ b → (a ≤ b) = True) ∧ (∀ {a b : Nat}, b < a → (a ≤ b) = False) ∧ (∀ {a b : Nat}, a < b → (a < b) = True) ∧ (∀ {a b : Nat}, b ≤ a → (a < b) = False) ∧ (∀ {a b : Nat}, a = b → (a = b) = True) ∧ (∀ {a b : Nat}, ¬ a = b → (a = b) = False) ∧ (∀ {s : mS} {y : Int32} {g : mS → Int32 → mO}, mo_bi (some (s, some (.int y))) g = g s y) ∧ (∀ {s : mS} {y : Int64} {g : mS → Int64 → mO}, mo_bl (some (s, some (.long y))) g = g s y) ∧ (∀ {s : mS} {g : mS → mO}, mo_bv (some (s, none)) g = g s) ∧ (∀ {nn : Int} {t : cS} {v : Option Value} {g : cS → Option Value → kO}, ko_call nn (some (t, .inl v)) g = g t v) ∧ (∀ {g : kO}, co_v none g = g) ∧ (∀ {y : Int32} {g : Int32 → kO}, co_i (some (.int y)) g = g y) ∧ (∀ {y : Int64} {g : Int64 → kO}, co_l (some (.long y)) g = g y) ∧ (∀ {y : Nat} {g : Nat → kO}, co_r (some (.ref y)) g = g y) ∧ (∀ {a : Nat} {g : Nat → kO}, co_b (some a) g = g a) ∧ (zz_reti (some .boolean) (Int32.ofNat 0) = true) ∧ (zz_reti (some .boolean) (Int32.ofNat 1) = true) ∧ ((¬ False) = True) ∧ ((¬ True) = False) ∧ (∀ {p : Prop}, (p ∨ False) = p) ∧ (∀ {p : Prop}, (False ∨ p) = p) ∧ (∀ {p : Prop}, (p ∨ True) = True) ∧ (∀ {p : Prop}, (True ∨ p) = True) ∧ (∀ {p : Prop}, (p ∧ True) = p) ∧ (∀ {p : Prop}, (True ∧ p) = p) ∧ (∀ {p : Prop}, (p ∧ False) = False) ∧ (∀ {p : Prop}, (False ∧ p) = False) ∧ (∀ {α : Type} {a : α}, (a = a) = True) ∧ (∀ {n m : Nat}, n + m - m = n) ∧ (∀ {a : Nat}, a < 2147483648 → (-Int32.ofNat 1 < Int32.ofNat a) = True) ∧ (∀ {a : Nat}, a < 2147483648 → (-Int32.ofNat 1 ≤ Int32.ofNat a) = True) ∧ (∀ {a : Nat}, a < 2147483648 → (Int32.ofNat a < -Int32.ofNat 1) = False) ∧ (∀ {a : Nat}, a < 2147483648 → (Int32.ofNat a ≤ -Int32.ofNat 1) = False) ∧ (∀ {a : Nat}, a < 2147483648 → (Int32.ofNat a = -Int32.ofNat 1) = False) ∧ (∀ {a : Nat}, a < 2147483648 → (-Int32.ofNat 1 = Int32.ofNat a) = False) := ⟨ev_c, ev_lt, ev_le, ev_eq, ev_sub, i32add, i32mul, ev_leT, ev_leF, ev_ltT, ev_ltF, ev_eqT, ev_eqF, ev_bi, ev_bl, ev_bv, ev_kc, ev_cv, ev_ci, ev_cl, ev_cr, ev_b, ev_rb0, ev_rb1, not_false_eq_true, not_true_eq_false, or_false _, false_or _, or_true _, true_or _, and_true _, true_and _, and_false _, false_and _, eq_self _, Nat.add_sub_cancel _ _, ev_n1, ev_n2, ev_n3, ev_n4, ev_n5, ev_n6⟩
theorem ev_P : (∀ (s : mS) (k : Nat) (x : Int32) (q : Nat), (mI s k x).1 q = (if q = k then x else s.1 q)) ∧ (∀ (s : mS) (k : Nat) (x : Int32), (mI s k x).2.1 = s.2.1) ∧ (∀ (s : mS) (k : Nat) (x : Int32), (mI s k x).2.2.1 = s.2.2.1) ∧ (∀ (s : mS) (k : Nat) (x : Int32), (mI s k x).2.2.2 = s.2.2.2) ∧ (∀ (s : mS) (k : Nat) (x : Int64), (mL s k x).1 = s.1) ∧ (∀ (s : mS) (k : Nat) (x : Int64) (q : Nat), (mL s k x).2.1 q = (if q = k then x else s.2.1 q)) ∧ (∀ (s : mS) (k : Nat) (x : Int64), (mL s k x).2.2.1 = s.2.2.1) ∧ (∀ (s : mS) (k : Nat) (x : Int64), (mL s k x).2.2.2 = s.2.2.2) ∧ (∀ (s : mS) (k : Nat) (f : Nat → Int32), (mA s k f).1 = s.1) ∧ (∀ (s : mS) (k : Nat) (f : Nat → Int32), (mA s k f).2.1 = s.2.1) ∧ (∀ (s : mS) (k : Nat) (f : Nat → Int32) (q : Nat), (mA s k f).2.2.1 q = (if q = k then f else s.2.2.1 q)) ∧ (∀ (s : mS) (k : Nat) (f : Nat → Int32), (mA s k f).2.2.2 = s.2.2.2) ∧ (∀ (s : mS) (k : Nat) (f : Nat → Int64), (mB s k f).1 = s.1) ∧ (∀ (s : mS) (k : Nat) (f : Nat → Int64), (mB s k f).2.1 = s.2.1) ∧ (∀ (s : mS) (k : Nat) (f : Nat → Int64), (mB s k f).2.2.1 = s.2.2.1) ∧ (∀ (s : mS) (k : Nat) (f : Nat → Int64) (q : Nat), (mB s k f).2.2.2 q = (if q = k then f else s.2.2.2 q)) := ⟨m0_mI, m1_mI, m2_mI, m3_mI, m0_mL, m1_mL, m2_mL, m3_mL, m0_mA, m1_mA, m2_mA, m3_mA, m0_mB, m1_mB, m2_mB, m3_mB⟩
theorem ev_C : (∀ (t : cS) (k f : Nat) (x : Int32) (a b : Nat), kI (jI t k f x) a b = (if a = k ∧ b = f then x else kI t a b)) ∧ (∀ (t : cS) (k f : Nat) (x : Int32), kL (jI t k f x) = kL t) ∧ (∀ (t : cS) (k f : Nat) (x : Int32), kP (jI t k f x) = kP t) ∧ (∀ (t : cS) (k f : Nat) (x : Int32), kA (jI t k f x) = kA t) ∧ (∀ (t : cS) (k f : Nat) (x : Int32), kB (jI t k f x) = kB t) ∧ (∀ (t : cS) (k f : Nat) (x : Int32), kM (jI t k f x) = kM t) ∧ (∀ (t : cS) (k f : Nat) (x : Int32), kD (jI t k f x) = kD t) ∧ (∀ (t : cS) (k f : Nat) (x : Int32), kZ (jI t k f x) = kZ t) ∧ (∀ (t : cS) (k f : Nat) (x : Int32), kH (jI t k f x) = kH t) ∧ (∀ (t : cS) (k f : Nat) (x : Int32), kN (jI t k f x) = kN t) ∧ (∀ (t : cS) (k f : Nat) (x : Int32), kQ (jI t k f x) = kQ t) ∧ (∀ (t : cS) (k f : Nat) (x : Int64), kI (jL t k f x) = kI t) ∧ (∀ (t : cS) (k f : Nat) (x : Int64) (a b : Nat), kL (jL t k f x) a b = (if a = k ∧ b = f then x else kL t a b)) ∧ (∀ (t : cS) (k f : Nat) (x : Int64), kP (jL t k f x) = kP t) ∧ (∀ (t : cS) (k f : Nat) (x : Int64), kA (jL t k f x) = kA t) ∧ (∀ (t : cS) (k f : Nat) (x : Int64), kB (jL t k f x) = kB t) ∧ (∀ (t : cS) (k f : Nat) (x : Int64), kM (jL t k f x) = kM t) ∧ (∀ (t : cS) (k f : Nat) (x : Int64), kD (jL t k f x) = kD t) ∧ (∀ (t : cS) (k f : Nat) (x : Int64), kZ (jL t k f x) = kZ t) ∧ (∀ (t : cS) (k f : Nat) (x : Int64), kH (jL t k f x) = kH t) ∧ (∀ (t : cS) (k f : Nat) (x : Int64), kN (jL t k f x) = kN t) ∧ (∀ (t : cS) (k f : Nat) (x : Int64), kQ (jL t k f x) = kQ t) ∧ (∀ (t : cS) (k f : Nat) (x : Option Nat), kI (jP t k f x) = kI t) ∧ (∀ (t : cS) (k f : Nat) (x : Option Nat), kL (jP t k f x) = kL t) ∧ (∀ (t : cS) (k f : Nat) (x : Option Nat) (a b : Nat), kP (jP t k f x) a b = (if a = k ∧ b = f then x else kP t a b)) ∧ (∀ (t : cS) (k f : Nat) (x : Option Nat), kA (jP t k f x) = kA t) ∧ (∀ (t : cS) (k f : Nat) (x : Option Nat), kB (jP t k f x) = kB t) ∧ (∀ (t : cS) (k f : Nat) (x : Option Nat), kM (jP t k f x) = kM t) ∧ (∀ (t : cS) (k f : Nat) (x : Option Nat), kD (jP t k f x) = kD t) ∧ (∀ (t : cS) (k f : Nat) (x : Option Nat), kZ (jP t k f x) = kZ t) ∧ (∀ (t : cS) (k f : Nat) (x : Option Nat), kH (jP t k f x) = kH t) ∧ (∀ (t : cS) (k f : Nat) (x : Option Nat), kN (jP t k f x) = kN t) ∧ (∀ (t : cS) (k f : Nat) (x : Option Nat), kQ (jP t k f x) = kQ t) ∧ (∀ (t : cS) (k : Nat) (g : Nat → Int32), kI (jA t k g) = kI t) ∧ (∀ (t : cS) (k : Nat) (g : Nat → Int32), kL (jA t k g) = kL t) ∧ (∀ (t : cS) (k : Nat) (g : Nat → Int32), kP (jA t k g) = kP t) ∧ (∀ (t : cS) (k : Nat) (g : Nat → Int32) (a : Nat), kA (jA t k g) a = (if a = k then ((kA t k).1, g) else kA t a)) ∧ (∀ (t : cS) (k : Nat) (g : Nat → Int32), kB (jA t k g) = kB t) ∧ (∀ (t : cS) (k : Nat) (g : Nat → Int32), kM (jA t k g) = kM t) ∧ (∀ (t : cS) (k : Nat) (g : Nat → Int32), kD (jA t k g) = kD t) ∧ (∀ (t : cS) (k : Nat) (g : Nat → Int32), kZ (jA t k g) = kZ t) ∧ (∀ (t : cS) (k : Nat) (g : Nat → Int32), kH (jA t k g) = kH t) ∧ (∀ (t : cS) (k : Nat) (g : Nat → Int32), kN (jA t k g) = kN t) ∧ (∀ (t : cS) (k : Nat) (g : Nat → Int32), kQ (jA t k g) = kQ t) ∧ (∀ (t : cS) (k : Nat) (g : Nat → Int64), kI (jB t k g) = kI t) ∧ (∀ (t : cS) (k : Nat) (g : Nat → Int64), kL (jB t k g) = kL t) ∧ (∀ (t : cS) (k : Nat) (g : Nat → Int64), kP (jB t k g) = kP t) ∧ (∀ (t : cS) (k : Nat) (g : Nat → Int64), kA (jB t k g) = kA t) ∧ (∀ (t : cS) (k : Nat) (g : Nat → Int64) (a : Nat), kB (jB t k g) a = (if a = k then ((kB t k).1, g) else kB t a)) ∧ (∀ (t : cS) (k : Nat) (g : Nat → Int64), kM (jB t k g) = kM t) ∧ (∀ (t : cS) (k : Nat) (g : Nat → Int64), kD (jB t k g) = kD t) ∧ (∀ (t : cS) (k : Nat) (g : Nat → Int64), kZ (jB t k g) = kZ t) ∧ (∀ (t : cS) (k : Nat) (g : Nat → Int64), kH (jB t k g) = kH t) ∧ (∀ (t : cS) (k : Nat) (g : Nat → Int64), kN (jB t k g) = kN t) ∧ (∀ (t : cS) (k : Nat) (g : Nat → Int64), kQ (jB t k g) = kQ t) ∧ (∀ (t : cS) (g : Nat → Option Nat), kI (jM t g) = kI t) ∧ (∀ (t : cS) (g : Nat → Option Nat), kL (jM t g) = kL t) ∧ (∀ (t : cS) (g : Nat → Option Nat), kP (jM t g) = kP t) ∧ (∀ (t : cS) (g : Nat → Option Nat), kA (jM t g) = kA t) ∧ (∀ (t : cS) (g : Nat → Option Nat), kB (jM t g) = kB t) ∧ (∀ (t : cS) (g : Nat → Option Nat), kM (jM t g)  = (g)) ∧ (∀ (t : cS) (g : Nat → Option Nat), kD (jM t g) = kD t) ∧ (∀ (t : cS) (g : Nat → Option Nat), kZ (jM t g) = kZ t) ∧ (∀ (t : cS) (g : Nat → Option Nat), kH (jM t g) = kH t) ∧ (∀ (t : cS) (g : Nat → Option Nat), kN (jM t g) = kN t) ∧ (∀ (t : cS) (g : Nat → Option Nat), kQ (jM t g) = kQ t) ∧ (∀ (t : cS) (z n : Nat) (g : Nat → Int32), kI (jNI t z n g) = kI t) ∧ (∀ (t : cS) (z n : Nat) (g : Nat → Int32), kL (jNI t z n g) = kL t) ∧ (∀ (t : cS) (z n : Nat) (g : Nat → Int32), kP (jNI t z n g) = kP t) ∧ (∀ (t : cS) (z n : Nat) (g : Nat → Int32) (a : Nat), kA (jNI t z n g) a = (if a = 111 then (n, g) else kA t a)) ∧ (∀ (t : cS) (z n : Nat) (g : Nat → Int32), kB (jNI t z n g) = kB t) ∧ (∀ (t : cS) (z n : Nat) (g : Nat → Int32), kM (jNI t z n g) = kM t) ∧ (∀ (t : cS) (z n : Nat) (g : Nat → Int32) (a : Nat), kD (jNI t z n g) a = (if a = 111 then kN t else kD t a)) ∧ (∀ (t : cS) (z n : Nat) (g : Nat → Int32), kZ (jNI t z n g)  = (z)) ∧ (∀ (t : cS) (z n : Nat) (g : Nat → Int32), kH (jNI t z n g) = kH t) ∧ (∀ (t : cS) (z n : Nat) (g : Nat → Int32), kN (jNI t z n g)  = (kN t + 1)) ∧ (∀ (t : cS) (z n : Nat) (g : Nat → Int32), kQ (jNI t z n g)  = (kQ t + n)) ∧ (∀ (t : cS) (n : Nat) (g : Nat → Int64), kI (jNL t n g) = kI t) ∧ (∀ (t : cS) (n : Nat) (g : Nat → Int64), kL (jNL t n g) = kL t) ∧ (∀ (t : cS) (n : Nat) (g : Nat → Int64), kP (jNL t n g) = kP t) ∧ (∀ (t : cS) (n : Nat) (g : Nat → Int64), kA (jNL t n g) = kA t) ∧ (∀ (t : cS) (n : Nat) (g : Nat → Int64) (a : Nat), kB (jNL t n g) a = (if a = 111 then (n, g) else kB t a)) ∧ (∀ (t : cS) (n : Nat) (g : Nat → Int64), kM (jNL t n g) = kM t) ∧ (∀ (t : cS) (n : Nat) (g : Nat → Int64) (a : Nat), kD (jNL t n g) a = (if a = 111 then kN t else kD t a)) ∧ (∀ (t : cS) (n : Nat) (g : Nat → Int64), kZ (jNL t n g)  = (2)) ∧ (∀ (t : cS) (n : Nat) (g : Nat → Int64), kH (jNL t n g) = kH t) ∧ (∀ (t : cS) (n : Nat) (g : Nat → Int64), kN (jNL t n g)  = (kN t + 1)) ∧ (∀ (t : cS) (n : Nat) (g : Nat → Int64), kQ (jNL t n g)  = (kQ t + n)) ∧ (∀ (t : cS) (k : Nat), kI (jMv t k) = kI t) ∧ (∀ (t : cS) (k : Nat), kL (jMv t k) = kL t) ∧ (∀ (t : cS) (k : Nat), kP (jMv t k) = kP t) ∧ (∀ (t : cS) (k : Nat) (a : Nat), kA (jMv t k) a = (if a = k then kA t 111 else kA t a)) ∧ (∀ (t : cS) (k : Nat) (a : Nat), kB (jMv t k) a = (if a = k then kB t 111 else kB t a)) ∧ (∀ (t : cS) (k : Nat), kM (jMv t k) = kM t) ∧ (∀ (t : cS) (k : Nat) (a : Nat), kD (jMv t k) a = (if a = k then kD t 111 else kD t a)) ∧ (∀ (t : cS) (k : Nat), kZ (jMv t k)  = (0)) ∧ (∀ (t : cS) (k : Nat), kH (jMv t k) = kH t) ∧ (∀ (t : cS) (k : Nat), kN (jMv t k) = kN t) ∧ (∀ (t : cS) (k : Nat), kQ (jMv t k) = kQ t) ∧ (∀ (t : cS) (n : Nat), kI (jX t n) = kI t) ∧ (∀ (t : cS) (n : Nat), kL (jX t n) = kL t) ∧ (∀ (t : cS) (n : Nat), kP (jX t n) = kP t) ∧ (∀ (t : cS) (n : Nat), kA (jX t n) = kA t) ∧ (∀ (t : cS) (n : Nat), kB (jX t n) = kB t) ∧ (∀ (t : cS) (n : Nat), kM (jX t n) = kM t) ∧ (∀ (t : cS) (n : Nat), kD (jX t n) = kD t) ∧ (∀ (t : cS) (n : Nat), kZ (jX t n) = kZ t) ∧ (∀ (t : cS) (n : Nat), kH (jX t n) = kH t) ∧ (∀ (t : cS) (n : Nat), kN (jX t n)  = (kN t + 1)) ∧ (∀ (t : cS) (n : Nat), kQ (jX t n)  = (kQ t + n)) := ⟨kI_jI, kL_jI, kP_jI, kA_jI, kB_jI, kM_jI, kD_jI, kZ_jI, kH_jI, kN_jI, kQ_jI, kI_jL, kL_jL, kP_jL, kA_jL, kB_jL, kM_jL, kD_jL, kZ_jL, kH_jL, kN_jL, kQ_jL, kI_jP, kL_jP, kP_jP, kA_jP, kB_jP, kM_jP, kD_jP, kZ_jP, kH_jP, kN_jP, kQ_jP, kI_jA, kL_jA, kP_jA, kA_jA, kB_jA, kM_jA, kD_jA, kZ_jA, kH_jA, kN_jA, kQ_jA, kI_jB, kL_jB, kP_jB, kA_jB, kB_jB, kM_jB, kD_jB, kZ_jB, kH_jB, kN_jB, kQ_jB, kI_jM, kL_jM, kP_jM, kA_jM, kB_jM, kM_jM, kD_jM, kZ_jM, kH_jM, kN_jM, kQ_jM, kI_jNI, kL_jNI, kP_jNI, kA_jNI, kB_jNI, kM_jNI, kD_jNI, kZ_jNI, kH_jNI, kN_jNI, kQ_jNI, kI_jNL, kL_jNL, kP_jNL, kA_jNL, kB_jNL, kM_jNL, kD_jNL, kZ_jNL, kH_jNL, kN_jNL, kQ_jNL, kI_jMv, kL_jMv, kP_jMv, kA_jMv, kB_jMv, kM_jMv, kD_jMv, kZ_jMv, kH_jMv, kN_jMv, kQ_jMv, kI_jX, kL_jX, kP_jX, kA_jX, kB_jX, kM_jX, kD_jX, kZ_jX, kH_jX, kN_jX, kQ_jX⟩
/-- a loop that counts up to n, with what holds at each round -/
theorem lp {α β : Type} (L : Nat → Nat → α → β) (n : Nat) (P : Nat → α → Prop) (Q : β → Prop) (hs : ∀ f i a, i < n → P i a → n - i ≤ f → (∃ a', P (i + 1) a' ∧ L (f + 1) i a = L f (i + 1) a') ∨ Q (L (f + 1) i a)) (he : ∀ f a, P n a → Q (L (f + 1) n a)) : ∀ (d i f : Nat) (a : α), i + d = n → d < f → P i a → Q (L f i a) := by
  intro d
  induction d with
  | zero =>
    intro i f a hi hf hp
    have hi : i = n := hi
    subst hi
    obtain ⟨f, rfl⟩ := Nat.exists_eq_add_of_lt hf
    rw [Nat.zero_add]
    exact he f a hp
  | succ d ih =>
    intro i f a hi hf hp
    obtain ⟨f, rfl⟩ := Nat.exists_eq_succ_of_ne_zero (show f ≠ 0 by omega)
    obtain ⟨a', h1, h2⟩ | h := hs f i a (by omega) hp (by omega)
    · show Q (L (f + 1) i a)
      rw [h2]
      exact ih (i + 1) f a' (by omega) (by omega) h1
    · exact h
end
-- ### 63.pure.lean.txt
section
/-! ===== PURE: same (the reference's): plain THINGS, and PACKS by the stack ===== -/
theorem ofNat_inj {a b : Nat} (ha : a < 2147483648) (hb : b < 2147483648) (h : Int32.ofNat a = Int32.ofNat b) : a = b := (i32eq ha hb).mp h
theorem serRow_pre {r r' l l' : List Int32} (h : r.length ≤ 64) (h' : r'.length ≤ 64) (e : serRow r ++ l = serRow r' ++ l') : r = r' ∧ l = l' := by
  obtain ⟨e1, e2⟩ := List.cons.inj (show Int32.ofNat r.length :: (r ++ l) = Int32.ofNat r'.length :: (r' ++ l') from e)
  have hl := ofNat_inj (by omega) (by omega) e1
  exact List.append_inj e2 hl
theorem flat_pre {α : Type} {g : α → List Int32} {p : α → Prop} (hg : ∀ x y l l', p x → p y → g x ++ l = g y ++ l' → g x = g y ∧ l = l') : ∀ (q q' : List α) (l l' : List Int32), q.length = q'.length → (∀ x ∈ q, p x) → (∀ x ∈ q', p x) → q.flatMap g ++ l = q'.flatMap g ++ l' → q.map g = q'.map g ∧ l = l'
  | [], [], _, _, _, _, _, e => ⟨rfl, e⟩
  | a :: q, b :: q', l, l', hl, hp, hp', e => by
    rw [List.flatMap_cons, List.flatMap_cons, List.append_assoc, List.append_assoc] at e
    obtain ⟨e1, e2⟩ := hg a b _ _ (hp a List.mem_cons_self) (hp' b List.mem_cons_self) e
    obtain ⟨e3, e4⟩ := flat_pre hg q q' l l' (Nat.succ.inj hl) (fun x hx => hp x (List.mem_cons_of_mem _ hx)) (fun x hx => hp' x (List.mem_cons_of_mem _ hx)) e2
    exact ⟨by rw [List.map_cons, List.map_cons, e1, e3], e4⟩
theorem serRow_inj {r r' : List Int32} (h : serRow r = serRow r') : r = r' := (List.cons.inj h).2
theorem map_inj {α : Type} {g : α → List Int32} (hg : ∀ x y, g x = g y → x = y) : ∀ (q q' : List α), q.map g = q'.map g → q = q'
  | [], [], _ => rfl
  | [], _ :: _, e => by cases e
  | _ :: _, [], e => by cases e
  | a :: q, b :: q', e => by
    obtain ⟨e1, e2⟩ := List.cons.inj e
    rw [hg a b e1, map_inj hg q q' e2]
theorem tab_pre {q q' : List (List Int32)} {l l' : List Int32} (hl : q.length = q'.length) (h : ∀ r ∈ q, r.length ≤ 64) (h' : ∀ r ∈ q', r.length ≤ 64) (e : q.flatMap serRow ++ l = q'.flatMap serRow ++ l') : q = q' ∧ l = l' := by
  obtain ⟨e1, e2⟩ := flat_pre (g := serRow) (p := fun r => r.length ≤ 64) (fun x y l l' hx hy e => by
    obtain ⟨e1, e2⟩ := serRow_pre hx hy e
    exact ⟨by rw [e1], e2⟩) q q' l l' hl h h' e
  exact ⟨map_inj (fun x y => serRow_inj) q q' e1, e2⟩
theorem serP_pre {x y : Pl} {l l' : List Int32} (h : wfP x) (h' : wfP y) (e : serP x ++ l = serP y ++ l') : serP x = serP y ∧ l = l' := by
  obtain x | r | q := x <;> obtain y | r' | q' := y
  · obtain ⟨-, e2⟩ := List.cons.inj e
    obtain ⟨e3, e4⟩ := List.cons.inj e2
    exact ⟨by rw [e3], e4⟩
  · exact absurd (List.cons.inj e).1 (show ¬ (0 : Int32) = 1 by decide)
  · exact absurd (List.cons.inj e).1 (show ¬ (0 : Int32) = 2 by decide)
  · exact absurd (List.cons.inj e).1 (show ¬ (1 : Int32) = 0 by decide)
  · obtain ⟨e1, e2⟩ := serRow_pre h h' (List.cons.inj e).2
    exact ⟨by rw [e1], e2⟩
  · exact absurd (List.cons.inj e).1 (show ¬ (1 : Int32) = 2 by decide)
  · exact absurd (List.cons.inj e).1 (show ¬ (2 : Int32) = 0 by decide)
  · exact absurd (List.cons.inj e).1 (show ¬ (2 : Int32) = 1 by decide)
  · obtain ⟨h1, -, h3⟩ := (show q.length ≤ 20 ∧ _ ∧ _ from h)
    obtain ⟨k1, -, k3⟩ := (show q'.length ≤ 20 ∧ _ ∧ _ from h')
    obtain ⟨e1, e2⟩ := List.cons.inj (List.cons.inj e).2
    obtain ⟨e3, e4⟩ := tab_pre (ofNat_inj (by omega) (by omega) e1) h3 k3 e2
    exact ⟨by rw [e3], e4⟩
theorem ser_pre : ∀ (n : Nat) (x y : Th n) (l l' : List Int32), wfT n x → wfT n y → ser n x ++ l = ser n y ++ l' → ser n x = ser n y ∧ l = l'
  | 0, x, y, l, l', h, h', e => serP_pre h h' e
  | n + 1, x, y, l, l', h, h', e => by
    obtain x | q := x <;> obtain y | q' := y
    · exact serP_pre h h' e
    · obtain x | r | w := x
      · exact absurd (List.cons.inj e).1 (show ¬ (0 : Int32) = 3 by decide)
      · exact absurd (List.cons.inj e).1 (show ¬ (1 : Int32) = 3 by decide)
      · exact absurd (List.cons.inj e).1 (show ¬ (2 : Int32) = 3 by decide)
    · obtain x | r | w := y
      · exact absurd (List.cons.inj e).1 (show ¬ (3 : Int32) = 0 by decide)
      · exact absurd (List.cons.inj e).1 (show ¬ (3 : Int32) = 1 by decide)
      · exact absurd (List.cons.inj e).1 (show ¬ (3 : Int32) = 2 by decide)
    · obtain ⟨h1, -, h3⟩ := (show q.length ≤ 20 ∧ _ ∧ _ from h)
      obtain ⟨k1, -, k3⟩ := (show q'.length ≤ 20 ∧ _ ∧ _ from h')
      obtain ⟨e1, e2⟩ := List.cons.inj (List.cons.inj e).2
      have hl := ofNat_inj (by omega) (by omega) e1
      obtain ⟨e3, e4⟩ := flat_pre (g := ser n) (p := wfT n) (fun x y l l' => ser_pre n x y l l') q q' l l' hl h3 k3 e2
      refine ⟨?_, e4⟩
      show (3 : Int32) :: Int32.ofNat q.length :: q.flatMap (ser n) = 3 :: Int32.ofNat q'.length :: q'.flatMap (ser n)
      rw [hl, List.flatMap_def, List.flatMap_def, e3]
/-- what a THING's own view must keep -/
def wfV : Vw → Prop
  | .inl _ => True
  | .inr (.inl r) => r.length ≤ 64
  | .inr (.inr (.inl q)) => q.length ≤ 20 ∧ (q.map List.length).sum ≤ 200 ∧ ∀ r ∈ q, r.length ≤ 64
  | .inr (.inr (.inr l)) => l.2.length ≤ 20 ∧ 1 + (l.2.map (bulk l.1)).sum ≤ 600 ∧ ∀ y ∈ l.2, wfT l.1 y
theorem vw_wf : ∀ x : Nod, wfT x.1 x.2 → wfV (vw x)
  | ⟨0, p⟩ => fun h => by obtain x | r | q := p <;> exact h
  | ⟨n + 1, x⟩ => fun h => by
    obtain p | l := x
    · obtain x | r | q := p <;> exact h
    · exact h
section SZ
variable {N : Nat} {R R' : Nat → Prop} {s : mS}
theorem ite_c {c d : Prop} [Decidable c] [Decidable d] {a b : Int32} (h : c ↔ d) : (if c then a else b) = if d then a else b := by
  by_cases k : c
  · rw [if_pos k, if_pos (h.mp k)]
  · rw [if_neg k, if_neg (fun q => k (h.mpr q))]
/-- rows of two TABLES -/
theorem r_plT {a b : Nat} {q q' : List (List Int32)} (hN : 170000 ≤ N) (hR : ∀ y, R y → y < 166300) (hR' : ∀ y, R' y → y < 166300) (H : Wy (s.2.2.1 47) a (LayN (s.2.2.1 47) R) (vT q)) (ha : a + wV wn (vT q) ≤ 166300) (H' : Wy (s.2.2.1 47) b (LayN (s.2.2.1 47) R') (vT q')) (hb : b + wV wn (vT q') ≤ 166300) (hl : q.length = q'.length) : ∀ (d i f : Nat), i + d = q.length → mf_345_L1 N (f + (d + 1)) 0 (Int32.ofNat a) (Int32.ofNat b) 1 (Int32.ofNat i) s = some (s, some (.int (if q.drop i = q'.drop i then 1 else 0))) := by
  have hw : a + (2 + q.length) ≤ 166300 := ha
  have hw' : b + (2 + q'.length) ≤ 166300 := hb
  have z0 : ∀ f x1 x2 x4, mf_345_L1 N (f + 1) 0 x1 x2 0 x4 s = some (s, some (.int 0)) := fun f x1 x2 x4 => by
    show mf_345_39 N (mf_345_L1 N f) x1 x2 0 x4 s = _
    repeat ((first | unfold mf_345 | unfold mf_345_0 | unfold mf_345_10 | unfold mf_345_16 | unfold mf_345_17 | unfold mf_345_22 | unfold mf_345_27 | unfold mf_345_30 | unfold mf_345_34 | unfold mf_345_35 | unfold mf_345_39 | unfold mf_345_43 | unfold mf_345_50 | unfold mf_345_53 | unfold mf_345_61 | unfold mf_345_68 | unfold mf_345_71 | unfold mf_345_78); try simp (disch := omega) only [ev_S, ev_P, ↓reduceIte, Nat.reduceEqDiff, Nat.reduceLeDiff, Nat.reduceAdd, Nat.reduceMul, Nat.reduceSub, reduceCtorEq, l32_0, l32_1, l32_2, l32_3, l32_4, l32_47, l32_166300])
  have hz := r_size (N := N) H ha
  intro d
  induction d with
  | zero =>
    intro i f hi
    have hi : i = q.length := hi
    subst hi
    rw [List.drop_length, hl, List.drop_length, if_pos rfl]
    show mf_345_39 N (mf_345_L1 N f) (Int32.ofNat a) (Int32.ofNat b) 1 (Int32.ofNat q'.length) s = _
    repeat ((first | unfold mf_345 | unfold mf_345_0 | unfold mf_345_10 | unfold mf_345_16 | unfold mf_345_17 | unfold mf_345_22 | unfold mf_345_27 | unfold mf_345_30 | unfold mf_345_34 | unfold mf_345_35 | unfold mf_345_39 | unfold mf_345_43 | unfold mf_345_50 | unfold mf_345_53 | unfold mf_345_61 | unfold mf_345_68 | unfold mf_345_71 | unfold mf_345_78); try simp (disch := omega) only [ev_S, ev_P, ↓reduceIte, Nat.reduceEqDiff, Nat.reduceLeDiff, Nat.reduceAdd, Nat.reduceMul, Nat.reduceSub, reduceCtorEq, l32_0, l32_1, l32_2, l32_3, l32_4, l32_47, l32_166300, hz, szV])
  | succ d ih =>
    intro i f hi
    have hi' : i < q.length := by omega
    obtain ⟨c, g1, g2⟩ := r_partT (N := N) H ha hi'
    obtain ⟨c', g1', g2'⟩ := r_partT (N := N) H' hb (i := i) (by omega)
    obtain ⟨L1, L2⟩ := LayN_iff.mp g2
    obtain ⟨L1', L2'⟩ := LayN_iff.mp g2'
    have L2 : Wy (s.2.2.1 47) c (LayN (s.2.2.1 47) R) (vR q[i]) := L2
    have L2' : Wy (s.2.2.1 47) c' (LayN (s.2.2.1 47) R') (vR q'[i]) := L2'
    have hc : c + wV wn (vR q[i]) ≤ 166300 := by
      have := hR _ (L1 (c + wV wn (vR q[i]) - 1) (by have := L2.kd.2.2; omega) (by have := L2.kd.2.2; show _ < c + wV wn (vR q[i]); omega))
      omega
    have hc' : c' + wV wn (vR (q'[i]'(by omega))) ≤ 166300 := by
      have := hR' _ (L1' (c' + wV wn (vR (q'[i]'(by omega))) - 1) (by have := L2'.kd.2.2; omega) (by have := L2'.kd.2.2; show _ < c' + wV wn (vR (q'[i]'(by omega))); omega))
      omega
    have es := r_sameRows hN L2 hc L2' hc'
    rw [List.drop_eq_getElem_cons hi', List.drop_eq_getElem_cons (show i < q'.length by omega)]
    show mf_345_39 N (mf_345_L1 N (f + (d + 1))) (Int32.ofNat a) (Int32.ofNat b) 1 (Int32.ofNat i) s = _
    by_cases e : q[i] = q'[i]'(by omega)
    · rw [if_pos e] at es
      have ih := ih (i + 1) f (by omega)
      repeat ((first | unfold mf_345 | unfold mf_345_0 | unfold mf_345_10 | unfold mf_345_16 | unfold mf_345_17 | unfold mf_345_22 | unfold mf_345_27 | unfold mf_345_30 | unfold mf_345_34 | unfold mf_345_35 | unfold mf_345_39 | unfold mf_345_43 | unfold mf_345_50 | unfold mf_345_53 | unfold mf_345_61 | unfold mf_345_68 | unfold mf_345_71 | unfold mf_345_78); try simp (disch := omega) only [ev_S, ev_P, ↓reduceIte, Nat.reduceEqDiff, Nat.reduceLeDiff, Nat.reduceAdd, Nat.reduceMul, Nat.reduceSub, reduceCtorEq, l32_0, l32_1, l32_2, l32_3, l32_4, l32_47, l32_166300, hz, szV, g1, g1', es])
      have e2 : (1 : Int32) = Int32.ofNat 1 := rfl
      rw [← e2, ih, e]
      by_cases c : q.drop (i + 1) = q'.drop (i + 1)
      · rw [if_pos c, if_pos (by rw [c])]
      · rw [if_neg c, if_neg (fun q => c (List.cons.inj q).2)]
        rfl
    · rw [if_neg e] at es
      repeat ((first | unfold mf_345 | unfold mf_345_0 | unfold mf_345_10 | unfold mf_345_16 | unfold mf_345_17 | unfold mf_345_22 | unfold mf_345_27 | unfold mf_345_30 | unfold mf_345_34 | unfold mf_345_35 | unfold mf_345_39 | unfold mf_345_43 | unfold mf_345_50 | unfold mf_345_53 | unfold mf_345_61 | unfold mf_345_68 | unfold mf_345_71 | unfold mf_345_78); try simp (disch := omega) only [ev_S, ev_P, ↓reduceIte, Nat.reduceEqDiff, Nat.reduceLeDiff, Nat.reduceAdd, Nat.reduceMul, Nat.reduceSub, reduceCtorEq, l32_0, l32_1, l32_2, l32_3, l32_4, l32_47, l32_166300, hz, szV, g1, g1', es])
      rw [if_neg (fun q => e (List.cons.inj q).1)]
      exact z0 (f + d) _ _ _
/-- two plain THINGS of one kind -/
theorem r_plainSame {a b : Nat} {v v' : Vw} (hN : 170000 ≤ N) (hR : ∀ y, R y → y < 166300) (hR' : ∀ y, R' y → y < 166300) (H : Wy (s.2.2.1 47) a (LayN (s.2.2.1 47) R) v) (ha : a + wV wn v ≤ 166300) (H' : Wy (s.2.2.1 47) b (LayN (s.2.2.1 47) R') v') (hb : b + wV wn v' ≤ 166300) (hk : kdV v = kdV v') (h3 : ¬ kdV v = 3) (hw : wfV v) (hw' : wfV v') : mf_345 N (Int32.ofNat a) (Int32.ofNat b) s = some (s, some (.int (if serV v = serV v' then 1 else 0))) := by
  have ka := H.kd
  have kb := H'.kd
  obtain z | r | q | l := v
  · exact H.elim
  · obtain z | r' | q' | l' := v'
    · exact H'.elim
    · have es := r_sameRows hN H ha H' hb
      have e1 : s.2.2.1 47 a = 1 := ka.1
      rw [show (if serV (vR r) = serV (vR r') then (1 : Int32) else 0) = if r = r' then 1 else 0 from ite_c ⟨fun e => (serRow_pre (l := []) (l' := []) hw hw' (by rw [List.append_nil, List.append_nil]; exact (List.cons.inj e).2)).1, fun e => by rw [e]⟩]
      by_cases e : r = r'
      · rw [if_pos e] at es ⊢
        repeat ((first | unfold mf_345 | unfold mf_345_0 | unfold mf_345_10 | unfold mf_345_16 | unfold mf_345_17 | unfold mf_345_22 | unfold mf_345_27 | unfold mf_345_30 | unfold mf_345_34 | unfold mf_345_35 | unfold mf_345_39 | unfold mf_345_43 | unfold mf_345_50 | unfold mf_345_53 | unfold mf_345_61 | unfold mf_345_68 | unfold mf_345_71 | unfold mf_345_78); try simp (disch := omega) only [ev_S, ev_P, ↓reduceIte, Nat.reduceEqDiff, Nat.reduceLeDiff, Nat.reduceAdd, Nat.reduceMul, Nat.reduceSub, reduceCtorEq, l32_0, l32_1, l32_2, l32_3, l32_4, l32_47, l32_166300, e1, es])
      · rw [if_neg e] at es ⊢
        repeat ((first | unfold mf_345 | unfold mf_345_0 | unfold mf_345_10 | unfold mf_345_16 | unfold mf_345_17 | unfold mf_345_22 | unfold mf_345_27 | unfold mf_345_30 | unfold mf_345_34 | unfold mf_345_35 | unfold mf_345_39 | unfold mf_345_43 | unfold mf_345_50 | unfold mf_345_53 | unfold mf_345_61 | unfold mf_345_68 | unfold mf_345_71 | unfold mf_345_78); try simp (disch := omega) only [ev_S, ev_P, ↓reduceIte, Nat.reduceEqDiff, Nat.reduceLeDiff, Nat.reduceAdd, Nat.reduceMul, Nat.reduceSub, reduceCtorEq, l32_0, l32_1, l32_2, l32_3, l32_4, l32_47, l32_166300, e1, es])
    · exact absurd hk (show ¬ (1 : Int32) = 2 by decide)
    · exact absurd hk (show ¬ (1 : Int32) = 3 by decide)
  · obtain z | r' | q' | l' := v'
    · exact H'.elim
    · exact absurd hk (show ¬ (2 : Int32) = 1 by decide)
    · have e1 : s.2.2.1 47 a = 2 := ka.1
      have hz := r_size (N := N) H ha
      have hz' := r_size (N := N) H' hb
      have wa : a + (2 + q.length) ≤ 166300 := ha
      have wb : b + (2 + q'.length) ≤ 166300 := hb
      rw [show (if serV (vT q) = serV (vT q') then (1 : Int32) else 0) = if q = q' then 1 else 0 from ite_c ⟨fun e => by
        obtain ⟨e1, e2⟩ := List.cons.inj (List.cons.inj e).2
        exact (tab_pre (l := []) (l' := []) (ofNat_inj (by have := hw.1; omega) (by have := hw'.1; omega) e1) hw.2.2 hw'.2.2 (by rw [List.append_nil, List.append_nil]; exact e2)).1, fun e => by rw [e]⟩]
      by_cases c : q.length = q'.length
      · have e := r_plT (N := N) hN hR hR' H ha H' hb c q.length 0 (N - (q.length + 1)) (Nat.zero_add _)
        rw [show N - (q.length + 1) + (q.length + 1) = N by omega, List.drop_zero, List.drop_zero] at e
        repeat ((first | unfold mf_345 | unfold mf_345_0 | unfold mf_345_10 | unfold mf_345_16 | unfold mf_345_17 | unfold mf_345_22 | unfold mf_345_27 | unfold mf_345_30 | unfold mf_345_34 | unfold mf_345_35 | unfold mf_345_39 | unfold mf_345_43 | unfold mf_345_50 | unfold mf_345_53 | unfold mf_345_61 | unfold mf_345_68 | unfold mf_345_71 | unfold mf_345_78); try simp (disch := omega) only [ev_S, ev_P, ↓reduceIte, Nat.reduceEqDiff, Nat.reduceLeDiff, Nat.reduceAdd, Nat.reduceMul, Nat.reduceSub, reduceCtorEq, l32_0, l32_1, l32_2, l32_3, l32_4, l32_47, l32_166300, e1, hz, hz', szV])
        exact e
      · rw [if_neg (fun q => c (by rw [q]))]
        repeat ((first | unfold mf_345 | unfold mf_345_0 | unfold mf_345_10 | unfold mf_345_16 | unfold mf_345_17 | unfold mf_345_22 | unfold mf_345_27 | unfold mf_345_30 | unfold mf_345_34 | unfold mf_345_35 | unfold mf_345_39 | unfold mf_345_43 | unfold mf_345_50 | unfold mf_345_53 | unfold mf_345_61 | unfold mf_345_68 | unfold mf_345_71 | unfold mf_345_78); try simp (disch := omega) only [ev_S, ev_P, ↓reduceIte, Nat.reduceEqDiff, Nat.reduceLeDiff, Nat.reduceAdd, Nat.reduceMul, Nat.reduceSub, reduceCtorEq, l32_0, l32_1, l32_2, l32_3, l32_4, l32_47, l32_166300, e1, hz, hz', szV])
        have e2 : N = (N - 1) + 1 := by omega
        generalize N - 1 = f at e2
        rw [show mf_345_L1 N N = mf_345_L1 N (f + 1) from congrArg _ e2]
        show mf_345_39 N (mf_345_L1 N f) (Int32.ofNat a) (Int32.ofNat b) 0 0 s = _
        repeat ((first | unfold mf_345 | unfold mf_345_0 | unfold mf_345_10 | unfold mf_345_16 | unfold mf_345_17 | unfold mf_345_22 | unfold mf_345_27 | unfold mf_345_30 | unfold mf_345_34 | unfold mf_345_35 | unfold mf_345_39 | unfold mf_345_43 | unfold mf_345_50 | unfold mf_345_53 | unfold mf_345_61 | unfold mf_345_68 | unfold mf_345_71 | unfold mf_345_78); try simp (disch := omega) only [ev_S, ev_P, ↓reduceIte, Nat.reduceEqDiff, Nat.reduceLeDiff, Nat.reduceAdd, Nat.reduceMul, Nat.reduceSub, reduceCtorEq, l32_0, l32_1, l32_2, l32_3, l32_4, l32_47, l32_166300])
    · exact absurd hk (show ¬ (2 : Int32) = 3 by decide)
  · exact absurd rfl h3
end SZ
end
-- ### 64.pure.lean.txt
section
/-! ===== PURE: same (the reference's): two PACKS ===== -/
theorem serV_hd (v : Vw) : ∃ l, serV v = kdV v :: l := by
  obtain y | r | q | w := v <;> exact ⟨_, rfl⟩
theorem serV_kd {v v' : Vw} (h : ¬ kdV v = kdV v') : ¬ serV v = serV v' := fun q => by
  obtain ⟨l, e⟩ := serV_hd v
  obtain ⟨l', e'⟩ := serV_hd v'
  rw [e, e'] at q
  exact h (List.cons.inj q).1
theorem intV_s {v : Vw} {z : Int32} (h : intV v = some z) : v = .inl z := by
  obtain y | r | q | w := v
  · cases h
    rfl
  · cases h
  · cases h
  · cases h
theorem intV_n {v : Vw} (h : intV v = none) : ¬ kdV v = 0 := by
  obtain y | r | q | w := v
  · cases h
  · exact (show ¬ (1 : Int32) = 0 by decide)
  · exact (show ¬ (2 : Int32) = 0 by decide)
  · exact (show ¬ (3 : Int32) = 0 by decide)
theorem kdV_3 {v : Vw} (h : kdV v = 3) : ∃ (n : Nat) (l : List (Th n)), v = vP n l := by
  obtain y | r | q | w := v
  · exact absurd h (show ¬ (0 : Int32) = 3 by decide)
  · exact absurd h (show ¬ (1 : Int32) = 3 by decide)
  · exact absurd h (show ¬ (2 : Int32) = 3 by decide)
  · exact ⟨w.1, w.2, rfl⟩
/-- parts of one list are PACKS of one depth -/
theorem vw_dep {n m m' : Nat} {x y : Th n} {w : List (Th m)} {w' : List (Th m')} (h : vw ⟨n, x⟩ = vP m w) (h' : vw ⟨n, y⟩ = vP m' w') : m = m' := by
  have key : ∀ {n m : Nat} {x : Th n} {w : List (Th m)}, vw ⟨n, x⟩ = vP m w → n = m + 1 := fun {n m x w} h => by
    match n, x, h with
    | 0, p, h => obtain z | r | q := p <;> cases h
    | n + 1, x, h =>
      obtain p | l := x
      · obtain z | r | q := p <;> cases h
      · cases h
        rfl
  have := key h
  have := key h'
  omega
section SAA
variable {N : Nat} {R R' : Nat → Prop}
theorem upd_s {f : Nat → Int32} {i : Nat} {v : Int32} : upd f i v i = v := if_pos rfl
theorem upd_n {f : Nat → Int32} {i j : Nat} {v : Int32} (h : ¬ j = i) : upd f i v j = f j := if_neg h
theorem sm_0 {f : Nat} {s : mS} : mf_346_L1 N (f + 1) 0 0 s = some (s, some (.int 0)) := by
  show mf_346_64 N (mf_346_L1 N f) 0 s = _
  repeat ((first | unfold mf_346 | unfold mf_346_0 | unfold mf_346_15 | unfold mf_346_17 | unfold mf_346_27 | unfold mf_346_33 | unfold mf_346_34 | unfold mf_346_39 | unfold mf_346_44 | unfold mf_346_47 | unfold mf_346_51 | unfold mf_346_52 | unfold mf_346_64 | unfold mf_346_68 | unfold mf_346_75 | unfold mf_346_122 | unfold mf_346_125 | unfold mf_346_138 | unfold mf_346_161 | unfold mf_346_164 | unfold mf_346_172 | unfold mf_346_175 | unfold mf_346_183 | unfold mf_346_186 | unfold mf_346_194 | unfold mf_346_197 | unfold mf_346_228 | unfold mf_346_232 | unfold mf_346_233 | unfold mf_346_237 | unfold mf_346_245 | unfold mf_346_255 | unfold mf_346_274 | unfold mf_346_285 | unfold mf_346_291 | unfold mf_346_297 | unfold mf_346_300 | unfold mf_346_303 | unfold mf_346_311 | unfold mf_346_314 | unfold mf_346_318 | unfold mf_346_319 | unfold mf_346_331 | unfold mf_346_339 | unfold mf_346_342); try simp (disch := omega) only [ev_S, ev_P, ↓reduceIte, Nat.reduceEqDiff, Nat.reduceLeDiff, Nat.reduceAdd, Nat.reduceMul, Nat.reduceSub, reduceCtorEq, l32_0, l32_1, l32_2, l32_3, l32_4, l32_8, l32_47, l32_52, l32_53, l32_54, l32_55, l32_166300])
/-- goesIn -/
abbrev gin (s : mS) (d a b : Nat) : mS := mI (mA (mA (mA s 52 (upd (s.2.2.1 52) d (Int32.ofNat a))) 53 (upd (s.2.2.1 53) d (Int32.ofNat b))) 54 (upd (s.2.2.1 54) d (Int32.ofNat 0))) 55 (Int32.ofNat (d + 1))
theorem r_goesIn {s : mS} {d a b : Nat} (hd : d < 8) (h55 : s.1 55 = Int32.ofNat d) : mf_296 N (Int32.ofNat a) (Int32.ofNat b) s = some (gin s d a b, none) := by
  repeat ((first | unfold mf_296 | unfold mf_296_0); try simp (disch := omega) only [ev_S, ev_P, ↓reduceIte, Nat.reduceEqDiff, Nat.reduceLeDiff, Nat.reduceAdd, Nat.reduceMul, Nat.reduceSub, reduceCtorEq, l32_0, l32_1, l32_2, l32_3, l32_4, l32_8, l32_52, l32_53, l32_54, l32_55, h55])
abbrev nxt (s : mS) (d i : Nat) : mS := mA s 54 (upd (s.2.2.1 54) d (Int32.ofNat (i + 1)))
/-- one part of both -/
theorem sm_part {d a b i n : Nat} {s : mS} {l l' : List (Th n)} (hN : 170000 ≤ N) (hR : ∀ y, R y → y < 166300) (hR' : ∀ y, R' y → y < 166300) (hd : d + 1 < 8) (h55 : s.1 55 = Int32.ofNat (d + 1)) (h52 : s.2.2.1 52 d = Int32.ofNat a) (h53 : s.2.2.1 53 d = Int32.ofNat b) (h54 : s.2.2.1 54 d = Int32.ofNat i) (H : Wy (s.2.2.1 47) a (LayN (s.2.2.1 47) R) (vP n l)) (ha : a + wV wn (vP n l) ≤ 166300) (H' : Wy (s.2.2.1 47) b (LayN (s.2.2.1 47) R') (vP n l')) (hb : b + wV wn (vP n l') ≤ 166300) (hl : l.length = l'.length) (hi : i < l.length) (hw : ∀ y ∈ l, wfT n y) (hw' : ∀ y ∈ l', wfT n y) : 
    (∀ f, mf_346_L1 N (f + 1) 0 1 s = mf_346_L1 N f 0 (if ser n l[i] = ser n (l'[i]'(by omega)) then 1 else 0) (nxt s d i)) ∨ (∃ c c', ¬ ser n l[i] = ser n (l'[i]'(by omega)) ∧ ∀ f, mf_346_L1 N (f + 1) 0 1 s = mf_346_L1 N f 0 0 (gin (nxt s d i) (d + 1) c c')) ∨ (∃ c c', ∃ m : Nat, ∃ w w' : List (Th m), vw ⟨n, l[i]⟩ = vP m w ∧ vw ⟨n, l'[i]'(by omega)⟩ = vP m w' ∧ (∀ f, mf_346_L1 N (f + 1) 0 1 s = mf_346_L1 N f 0 (if w.length = w'.length then 1 else 0) (gin (nxt s d i) (d + 1) c c')) ∧ Wy (s.2.2.1 47) c (LayN (s.2.2.1 47) R) (vP m w) ∧ c + wV wn (vP m w) ≤ 166300 ∧ Wy (s.2.2.1 47) c' (LayN (s.2.2.1 47) R') (vP m w') ∧ c' + wV wn (vP m w') ≤ 166300) := by
  have hwa : a + (2 + 2 * l.length) ≤ 166300 := ha
  have hwb : b + (2 + 2 * l'.length) ≤ 166300 := hb
  have hi' : i < l'.length := by omega
  have hz := r_size (N := N) H ha
  have i1 := r_isInt (N := N) (s := nxt s d i) H ha hi
  have i2 := r_isInt (N := N) (s := nxt s d i) H' hb hi'
  have q1 : intT n l[i] = _ := vw_int ⟨n, l[i]⟩
  have q2 : intT n l'[i] = _ := vw_int ⟨n, l'[i]⟩
  have w1 := vw_wf ⟨n, l[i]⟩ (hw _ (List.getElem_mem _))
  have w2 := vw_wf ⟨n, l'[i]⟩ (hw' _ (List.getElem_mem _))
  have s1 : ser n l[i] = _ := vw_ser ⟨n, l[i]⟩
  have s2 : ser n l'[i] = _ := vw_ser ⟨n, l'[i]⟩
  have e64 : ∀ f, mf_346_L1 N (f + 1) 0 1 s = mf_346_64 N (mf_346_L1 N f) 1 s := fun _ => rfl
  rw [s1, s2]
  cases hA : intT n l[i] with
  | some z =>
    rw [hA] at i1
    have i1 : mf_293 N (Int32.ofNat a) (Int32.ofNat i) (nxt s d i) = some (nxt s d i, some (.int 1)) := i1
    obtain ⟨y1, y2⟩ := (H.2.2 i hi).1 z hA
    have v1 := intV_s (q1.symm.trans hA)
    refine Or.inl (fun f => ?_)
    rw [e64, v1]
    cases hB : intT n l'[i] with
    | some z' =>
      rw [hB] at i2
      have i2 : mf_293 N (Int32.ofNat b) (Int32.ofNat i) (nxt s d i) = some (nxt s d i, some (.int 1)) := i2
      obtain ⟨x1, x2⟩ := (H'.2.2 i hi').1 z' hB
      have v2 := intV_s (q2.symm.trans hB)
      rw [v2]
      by_cases e : z = z'
      · rw [if_pos (by rw [e])]
        repeat ((first | unfold mf_346 | unfold mf_346_0 | unfold mf_346_15 | unfold mf_346_17 | unfold mf_346_27 | unfold mf_346_33 | unfold mf_346_34 | unfold mf_346_39 | unfold mf_346_44 | unfold mf_346_47 | unfold mf_346_51 | unfold mf_346_52 | unfold mf_346_64 | unfold mf_346_68 | unfold mf_346_75 | unfold mf_346_122 | unfold mf_346_125 | unfold mf_346_138 | unfold mf_346_161 | unfold mf_346_164 | unfold mf_346_172 | unfold mf_346_175 | unfold mf_346_183 | unfold mf_346_186 | unfold mf_346_194 | unfold mf_346_197 | unfold mf_346_228 | unfold mf_346_232 | unfold mf_346_233 | unfold mf_346_237 | unfold mf_346_245 | unfold mf_346_255 | unfold mf_346_274 | unfold mf_346_285 | unfold mf_346_291 | unfold mf_346_297 | unfold mf_346_300 | unfold mf_346_303 | unfold mf_346_311 | unfold mf_346_314 | unfold mf_346_318 | unfold mf_346_319 | unfold mf_346_331 | unfold mf_346_339 | unfold mf_346_342); try simp (disch := omega) only [ev_S, ev_P, ↓reduceIte, Nat.reduceEqDiff, Nat.reduceLeDiff, Nat.reduceAdd, Nat.reduceMul, Nat.reduceSub, reduceCtorEq, l32_0, l32_1, l32_2, l32_3, l32_4, l32_8, l32_47, l32_52, l32_53, l32_54, l32_55, l32_166300, h55, h52, h53, h54, hz, szV, i1, i2, y2, x2, e, upd_s])
      · rw [if_neg (show ¬ serV (Sum.inl z) = serV (Sum.inl z') from fun q => e (List.cons.inj (List.cons.inj q).2).1)]
        repeat ((first | unfold mf_346 | unfold mf_346_0 | unfold mf_346_15 | unfold mf_346_17 | unfold mf_346_27 | unfold mf_346_33 | unfold mf_346_34 | unfold mf_346_39 | unfold mf_346_44 | unfold mf_346_47 | unfold mf_346_51 | unfold mf_346_52 | unfold mf_346_64 | unfold mf_346_68 | unfold mf_346_75 | unfold mf_346_122 | unfold mf_346_125 | unfold mf_346_138 | unfold mf_346_161 | unfold mf_346_164 | unfold mf_346_172 | unfold mf_346_175 | unfold mf_346_183 | unfold mf_346_186 | unfold mf_346_194 | unfold mf_346_197 | unfold mf_346_228 | unfold mf_346_232 | unfold mf_346_233 | unfold mf_346_237 | unfold mf_346_245 | unfold mf_346_255 | unfold mf_346_274 | unfold mf_346_285 | unfold mf_346_291 | unfold mf_346_297 | unfold mf_346_300 | unfold mf_346_303 | unfold mf_346_311 | unfold mf_346_314 | unfold mf_346_318 | unfold mf_346_319 | unfold mf_346_331 | unfold mf_346_339 | unfold mf_346_342); try simp (disch := omega) only [ev_S, ev_P, ↓reduceIte, Nat.reduceEqDiff, Nat.reduceLeDiff, Nat.reduceAdd, Nat.reduceMul, Nat.reduceSub, reduceCtorEq, l32_0, l32_1, l32_2, l32_3, l32_4, l32_8, l32_47, l32_52, l32_53, l32_54, l32_55, l32_166300, h55, h52, h53, h54, hz, szV, i1, i2, y2, x2, e, upd_s])
    | none =>
      rw [hB] at i2
      have i2 : mf_293 N (Int32.ofNat b) (Int32.ofNat i) (nxt s d i) = some (nxt s d i, some (.int 0)) := i2
      have v2 := intV_n (q2.symm.trans hB)
      rw [if_neg (serV_kd (fun q => v2 q.symm))]
      repeat ((first | unfold mf_346 | unfold mf_346_0 | unfold mf_346_15 | unfold mf_346_17 | unfold mf_346_27 | unfold mf_346_33 | unfold mf_346_34 | unfold mf_346_39 | unfold mf_346_44 | unfold mf_346_47 | unfold mf_346_51 | unfold mf_346_52 | unfold mf_346_64 | unfold mf_346_68 | unfold mf_346_75 | unfold mf_346_122 | unfold mf_346_125 | unfold mf_346_138 | unfold mf_346_161 | unfold mf_346_164 | unfold mf_346_172 | unfold mf_346_175 | unfold mf_346_183 | unfold mf_346_186 | unfold mf_346_194 | unfold mf_346_197 | unfold mf_346_228 | unfold mf_346_232 | unfold mf_346_233 | unfold mf_346_237 | unfold mf_346_245 | unfold mf_346_255 | unfold mf_346_274 | unfold mf_346_285 | unfold mf_346_291 | unfold mf_346_297 | unfold mf_346_300 | unfold mf_346_303 | unfold mf_346_311 | unfold mf_346_314 | unfold mf_346_318 | unfold mf_346_319 | unfold mf_346_331 | unfold mf_346_339 | unfold mf_346_342); try simp (disch := omega) only [ev_S, ev_P, ↓reduceIte, Nat.reduceEqDiff, Nat.reduceLeDiff, Nat.reduceAdd, Nat.reduceMul, Nat.reduceSub, reduceCtorEq, l32_0, l32_1, l32_2, l32_3, l32_4, l32_8, l32_47, l32_52, l32_53, l32_54, l32_55, l32_166300, h55, h52, h53, h54, hz, szV, i1, i2, upd_s])
  | none =>
    rw [hA] at i1
    have i1 : mf_293 N (Int32.ofNat a) (Int32.ofNat i) (nxt s d i) = some (nxt s d i, some (.int 0)) := i1
    have v1 := intV_n (q1.symm.trans hA)
    cases hB : intT n l'[i] with
    | some z' =>
      rw [hB] at i2
      have i2 : mf_293 N (Int32.ofNat b) (Int32.ofNat i) (nxt s d i) = some (nxt s d i, some (.int 1)) := i2
      have v2 := intV_s (q2.symm.trans hB)
      refine Or.inl (fun f => ?_)
      rw [e64, v2, if_neg (serV_kd (fun q => v1 q))]
      repeat ((first | unfold mf_346 | unfold mf_346_0 | unfold mf_346_15 | unfold mf_346_17 | unfold mf_346_27 | unfold mf_346_33 | unfold mf_346_34 | unfold mf_346_39 | unfold mf_346_44 | unfold mf_346_47 | unfold mf_346_51 | unfold mf_346_52 | unfold mf_346_64 | unfold mf_346_68 | unfold mf_346_75 | unfold mf_346_122 | unfold mf_346_125 | unfold mf_346_138 | unfold mf_346_161 | unfold mf_346_164 | unfold mf_346_172 | unfold mf_346_175 | unfold mf_346_183 | unfold mf_346_186 | unfold mf_346_194 | unfold mf_346_197 | unfold mf_346_228 | unfold mf_346_232 | unfold mf_346_233 | unfold mf_346_237 | unfold mf_346_245 | unfold mf_346_255 | unfold mf_346_274 | unfold mf_346_285 | unfold mf_346_291 | unfold mf_346_297 | unfold mf_346_300 | unfold mf_346_303 | unfold mf_346_311 | unfold mf_346_314 | unfold mf_346_318 | unfold mf_346_319 | unfold mf_346_331 | unfold mf_346_339 | unfold mf_346_342); try simp (disch := omega) only [ev_S, ev_P, ↓reduceIte, Nat.reduceEqDiff, Nat.reduceLeDiff, Nat.reduceAdd, Nat.reduceMul, Nat.reduceSub, reduceCtorEq, l32_0, l32_1, l32_2, l32_3, l32_4, l32_8, l32_47, l32_52, l32_53, l32_54, l32_55, l32_166300, h55, h52, h53, h54, hz, szV, i1, i2, upd_s])
    | none =>
      rw [hB] at i2
      have i2 : mf_293 N (Int32.ofNat b) (Int32.ofNat i) (nxt s d i) = some (nxt s d i, some (.int 0)) := i2
      have v2 := intV_n (q2.symm.trans hB)
      obtain ⟨c, g1, g2⟩ := r_partP (N := N) (s := nxt s d i) H ha hi hA
      obtain ⟨c', g1', g2'⟩ := r_partP (N := N) (s := nxt s d i) H' hb hi' hB
      obtain ⟨L1, L2⟩ := LayN_iff.mp g2
      obtain ⟨L1', L2'⟩ := LayN_iff.mp g2'
      have k1 := L2.kd
      have k2 := L2'.kd
      have hc : c + wV wn (vw ⟨n, l[i]⟩) ≤ 166300 := by
        have := hR _ (L1 (c + wV wn (vw ⟨n, l[i]⟩) - 1) (by omega) (by omega))
        omega
      have hc' : c' + wV wn (vw ⟨n, l'[i]⟩) ≤ 166300 := by
        have := hR' _ (L1' (c' + wV wn (vw ⟨n, l'[i]⟩) - 1) (by omega) (by omega))
        omega
      generalize hV : vw ⟨n, l[i]⟩ = V at k1 hc L2 s1 w1 v1
      generalize hV' : vw ⟨n, l'[i]⟩ = V' at k2 hc' L2' s2 w2 v2
      have k1a : s.2.2.1 47 c = kdV V := k1.1
      have k2a : s.2.2.1 47 c' = kdV V' := k2.1
      have k1b := k1.2.2
      have k2b := k2.2.2
      have c1 : c < 166300 := by omega
      have c2 : c' < 166300 := by omega
      have gg := r_goesIn (N := N) (s := nxt s d i) (d := d + 1) (a := c) (b := c') hd h55
      by_cases hk : kdV V = kdV V'
      · by_cases h3 : kdV V = 3
        · obtain ⟨m, w, rfl⟩ := kdV_3 h3
          obtain ⟨m', w', rfl⟩ := kdV_3 (hk.symm.trans h3)
          cases vw_dep hV hV'
          have z1 := r_size (N := N) (s := nxt s d i) L2 hc
          have z2 := r_size (N := N) (s := nxt s d i) L2' hc'
          refine Or.inr (Or.inr ⟨c, c', m, w, w', rfl, rfl, fun f => ?_, L2, hc, L2', hc'⟩)
          rw [e64]
          have k1a : s.2.2.1 47 c = 3 := k1a
          have k2a : s.2.2.1 47 c' = 3 := k2a
          have wl : w.length ≤ 20 := w1.1
          have wl' : w'.length ≤ 20 := w2.1
          by_cases e : w.length = w'.length
          · repeat ((first | unfold mf_346 | unfold mf_346_0 | unfold mf_346_15 | unfold mf_346_17 | unfold mf_346_27 | unfold mf_346_33 | unfold mf_346_34 | unfold mf_346_39 | unfold mf_346_44 | unfold mf_346_47 | unfold mf_346_51 | unfold mf_346_52 | unfold mf_346_64 | unfold mf_346_68 | unfold mf_346_75 | unfold mf_346_122 | unfold mf_346_125 | unfold mf_346_138 | unfold mf_346_161 | unfold mf_346_164 | unfold mf_346_172 | unfold mf_346_175 | unfold mf_346_183 | unfold mf_346_186 | unfold mf_346_194 | unfold mf_346_197 | unfold mf_346_228 | unfold mf_346_232 | unfold mf_346_233 | unfold mf_346_237 | unfold mf_346_245 | unfold mf_346_255 | unfold mf_346_274 | unfold mf_346_285 | unfold mf_346_291 | unfold mf_346_297 | unfold mf_346_300 | unfold mf_346_303 | unfold mf_346_311 | unfold mf_346_314 | unfold mf_346_318 | unfold mf_346_319 | unfold mf_346_331 | unfold mf_346_339 | unfold mf_346_342); try simp (disch := omega) only [ev_S, ev_P, ↓reduceIte, Nat.reduceEqDiff, Nat.reduceLeDiff, Nat.reduceAdd, Nat.reduceMul, Nat.reduceSub, reduceCtorEq, l32_0, l32_1, l32_2, l32_3, l32_4, l32_8, l32_47, l32_52, l32_53, l32_54, l32_55, l32_166300, h55, h52, h53, h54, hz, szV, i1, i2, upd_s, g1, g1', k1a, k2a, z1, z2, e, gg])
          · repeat ((first | unfold mf_346 | unfold mf_346_0 | unfold mf_346_15 | unfold mf_346_17 | unfold mf_346_27 | unfold mf_346_33 | unfold mf_346_34 | unfold mf_346_39 | unfold mf_346_44 | unfold mf_346_47 | unfold mf_346_51 | unfold mf_346_52 | unfold mf_346_64 | unfold mf_346_68 | unfold mf_346_75 | unfold mf_346_122 | unfold mf_346_125 | unfold mf_346_138 | unfold mf_346_161 | unfold mf_346_164 | unfold mf_346_172 | unfold mf_346_175 | unfold mf_346_183 | unfold mf_346_186 | unfold mf_346_194 | unfold mf_346_197 | unfold mf_346_228 | unfold mf_346_232 | unfold mf_346_233 | unfold mf_346_237 | unfold mf_346_245 | unfold mf_346_255 | unfold mf_346_274 | unfold mf_346_285 | unfold mf_346_291 | unfold mf_346_297 | unfold mf_346_300 | unfold mf_346_303 | unfold mf_346_311 | unfold mf_346_314 | unfold mf_346_318 | unfold mf_346_319 | unfold mf_346_331 | unfold mf_346_339 | unfold mf_346_342); try simp (disch := omega) only [ev_S, ev_P, ↓reduceIte, Nat.reduceEqDiff, Nat.reduceLeDiff, Nat.reduceAdd, Nat.reduceMul, Nat.reduceSub, reduceCtorEq, l32_0, l32_1, l32_2, l32_3, l32_4, l32_8, l32_47, l32_52, l32_53, l32_54, l32_55, l32_166300, h55, h52, h53, h54, hz, szV, i1, i2, upd_s, g1, g1', k1a, k2a, z1, z2, e, gg])
        · have es := r_plainSame (s := nxt s d i) hN hR hR' L2 hc L2' hc' hk h3 w1 w2
          refine Or.inl (fun f => ?_)
          rw [e64]
          have h3' : ¬ kdV V' = Int32.ofNat 3 := hk ▸ h3
          by_cases e : serV V = serV V'
          · rw [if_pos e] at es ⊢
            repeat ((first | unfold mf_346 | unfold mf_346_0 | unfold mf_346_15 | unfold mf_346_17 | unfold mf_346_27 | unfold mf_346_33 | unfold mf_346_34 | unfold mf_346_39 | unfold mf_346_44 | unfold mf_346_47 | unfold mf_346_51 | unfold mf_346_52 | unfold mf_346_64 | unfold mf_346_68 | unfold mf_346_75 | unfold mf_346_122 | unfold mf_346_125 | unfold mf_346_138 | unfold mf_346_161 | unfold mf_346_164 | unfold mf_346_172 | unfold mf_346_175 | unfold mf_346_183 | unfold mf_346_186 | unfold mf_346_194 | unfold mf_346_197 | unfold mf_346_228 | unfold mf_346_232 | unfold mf_346_233 | unfold mf_346_237 | unfold mf_346_245 | unfold mf_346_255 | unfold mf_346_274 | unfold mf_346_285 | unfold mf_346_291 | unfold mf_346_297 | unfold mf_346_300 | unfold mf_346_303 | unfold mf_346_311 | unfold mf_346_314 | unfold mf_346_318 | unfold mf_346_319 | unfold mf_346_331 | unfold mf_346_339 | unfold mf_346_342); try simp (disch := omega) only [ev_S, ev_P, ↓reduceIte, Nat.reduceEqDiff, Nat.reduceLeDiff, Nat.reduceAdd, Nat.reduceMul, Nat.reduceSub, reduceCtorEq, l32_0, l32_1, l32_2, l32_3, l32_4, l32_8, l32_47, l32_52, l32_53, l32_54, l32_55, l32_166300, h55, h52, h53, h54, hz, szV, i1, i2, upd_s, g1, g1', k1a, k2a, hk, h3', es])
          · rw [if_neg e] at es ⊢
            repeat ((first | unfold mf_346 | unfold mf_346_0 | unfold mf_346_15 | unfold mf_346_17 | unfold mf_346_27 | unfold mf_346_33 | unfold mf_346_34 | unfold mf_346_39 | unfold mf_346_44 | unfold mf_346_47 | unfold mf_346_51 | unfold mf_346_52 | unfold mf_346_64 | unfold mf_346_68 | unfold mf_346_75 | unfold mf_346_122 | unfold mf_346_125 | unfold mf_346_138 | unfold mf_346_161 | unfold mf_346_164 | unfold mf_346_172 | unfold mf_346_175 | unfold mf_346_183 | unfold mf_346_186 | unfold mf_346_194 | unfold mf_346_197 | unfold mf_346_228 | unfold mf_346_232 | unfold mf_346_233 | unfold mf_346_237 | unfold mf_346_245 | unfold mf_346_255 | unfold mf_346_274 | unfold mf_346_285 | unfold mf_346_291 | unfold mf_346_297 | unfold mf_346_300 | unfold mf_346_303 | unfold mf_346_311 | unfold mf_346_314 | unfold mf_346_318 | unfold mf_346_319 | unfold mf_346_331 | unfold mf_346_339 | unfold mf_346_342); try simp (disch := omega) only [ev_S, ev_P, ↓reduceIte, Nat.reduceEqDiff, Nat.reduceLeDiff, Nat.reduceAdd, Nat.reduceMul, Nat.reduceSub, reduceCtorEq, l32_0, l32_1, l32_2, l32_3, l32_4, l32_8, l32_47, l32_52, l32_53, l32_54, l32_55, l32_166300, h55, h52, h53, h54, hz, szV, i1, i2, upd_s, g1, g1', k1a, k2a, hk, h3', es])
      · by_cases h3 : kdV V = 3
        · refine Or.inr (Or.inl ⟨c, c', serV_kd hk, fun f => ?_⟩)
          rw [e64]
          have hk' : ¬ Int32.ofNat 3 = kdV V' := fun q => hk (h3.trans q)
          repeat ((first | unfold mf_346 | unfold mf_346_0 | unfold mf_346_15 | unfold mf_346_17 | unfold mf_346_27 | unfold mf_346_33 | unfold mf_346_34 | unfold mf_346_39 | unfold mf_346_44 | unfold mf_346_47 | unfold mf_346_51 | unfold mf_346_52 | unfold mf_346_64 | unfold mf_346_68 | unfold mf_346_75 | unfold mf_346_122 | unfold mf_346_125 | unfold mf_346_138 | unfold mf_346_161 | unfold mf_346_164 | unfold mf_346_172 | unfold mf_346_175 | unfold mf_346_183 | unfold mf_346_186 | unfold mf_346_194 | unfold mf_346_197 | unfold mf_346_228 | unfold mf_346_232 | unfold mf_346_233 | unfold mf_346_237 | unfold mf_346_245 | unfold mf_346_255 | unfold mf_346_274 | unfold mf_346_285 | unfold mf_346_291 | unfold mf_346_297 | unfold mf_346_300 | unfold mf_346_303 | unfold mf_346_311 | unfold mf_346_314 | unfold mf_346_318 | unfold mf_346_319 | unfold mf_346_331 | unfold mf_346_339 | unfold mf_346_342); try simp (disch := omega) only [ev_S, ev_P, ↓reduceIte, Nat.reduceEqDiff, Nat.reduceLeDiff, Nat.reduceAdd, Nat.reduceMul, Nat.reduceSub, reduceCtorEq, l32_0, l32_1, l32_2, l32_3, l32_4, l32_8, l32_47, l32_52, l32_53, l32_54, l32_55, l32_166300, h55, h52, h53, h54, hz, szV, i1, i2, upd_s, g1, g1', k1a, k2a, h3, hk', gg])
        · refine Or.inl (fun f => ?_)
          rw [if_neg (serV_kd hk), e64]
          have h3' : ¬ kdV V = Int32.ofNat 3 := h3
          repeat ((first | unfold mf_346 | unfold mf_346_0 | unfold mf_346_15 | unfold mf_346_17 | unfold mf_346_27 | unfold mf_346_33 | unfold mf_346_34 | unfold mf_346_39 | unfold mf_346_44 | unfold mf_346_47 | unfold mf_346_51 | unfold mf_346_52 | unfold mf_346_64 | unfold mf_346_68 | unfold mf_346_75 | unfold mf_346_122 | unfold mf_346_125 | unfold mf_346_138 | unfold mf_346_161 | unfold mf_346_164 | unfold mf_346_172 | unfold mf_346_175 | unfold mf_346_183 | unfold mf_346_186 | unfold mf_346_194 | unfold mf_346_197 | unfold mf_346_228 | unfold mf_346_232 | unfold mf_346_233 | unfold mf_346_237 | unfold mf_346_245 | unfold mf_346_255 | unfold mf_346_274 | unfold mf_346_285 | unfold mf_346_291 | unfold mf_346_297 | unfold mf_346_300 | unfold mf_346_303 | unfold mf_346_311 | unfold mf_346_314 | unfold mf_346_318 | unfold mf_346_319 | unfold mf_346_331 | unfold mf_346_339 | unfold mf_346_342); try simp (disch := omega) only [ev_S, ev_P, ↓reduceIte, Nat.reduceEqDiff, Nat.reduceLeDiff, Nat.reduceAdd, Nat.reduceMul, Nat.reduceSub, reduceCtorEq, l32_0, l32_1, l32_2, l32_3, l32_4, l32_8, l32_47, l32_52, l32_53, l32_54, l32_55, l32_166300, h55, h52, h53, h54, hz, szV, i1, i2, upd_s, g1, g1', k1a, k2a, hk, h3'])
end SAA
end
-- ### 65.pure.lean.txt
section
/-! ===== PURE: THINGS of any depth brought to one depth ===== -/
def csP (v : Vw) : Pl := match v with
  | .inl z => .inl z
  | .inr (.inl r) => .inr (.inl r)
  | .inr (.inr (.inl q)) => .inr (.inr q)
  | .inr (.inr (.inr _)) => .inl 0
def cs : (m : Nat) → Nod → Th m
  | 0, x => csP (vw x)
  | m + 1, x => match vw x with
    | .inr (.inr (.inr l)) => (show Pl ⊕ List (Th m) from .inr (l.2.map fun y => cs m ⟨l.1, y⟩))
    | v => (show Pl ⊕ List (Th m) from .inl (csP v))
def mxL (l : List Nat) : Nat := l.foldr Nat.max 0
theorem mxL_le : ∀ {l : List Nat} {m : Nat}, mxL l ≤ m ↔ ∀ x ∈ l, x ≤ m
  | [], m => ⟨fun _ x h => (List.not_mem_nil h).elim, fun _ => Nat.zero_le _⟩
  | a :: l, m => by
    show Nat.max a (mxL l) ≤ m ↔ _
    rw [show (Nat.max a (mxL l) ≤ m) ↔ (a ≤ m ∧ mxL l ≤ m) from Nat.max_le, mxL_le (l := l)]
    exact ⟨fun h x hx => by
      obtain e | e := List.mem_cons.mp hx
      · rw [e]; exact h.1
      · exact h.2 x e, fun h => ⟨h a List.mem_cons_self, fun x hx => h x (List.mem_cons_of_mem _ hx)⟩⟩
/-- how deep PACKS stand in it -/
def dT : (n : Nat) → Th n → Nat
  | 0, _ => 0
  | n + 1, x => match (show Pl ⊕ List (Th n) from x) with
    | .inl _ => 0
    | .inr l => 1 + mxL (l.map (dT n))
def dN (x : Nod) : Nat := dT x.1 x.2
theorem dN_P : ∀ {x : Nod} {n : Nat} {l : List (Th n)}, vw x = vP n l → dN x = 1 + mxL (l.map (dT n))
  | ⟨0, p⟩, n, l, h => by obtain z | r | q := p <;> cases h
  | ⟨m + 1, x⟩, n, l, h => by
    obtain p | l' := x
    · obtain z | r | q := p <;> cases h
    · cases h
      rfl
theorem dN_0 : ∀ {x : Nod}, ¬ kdV (vw x) = 3 → dN x = 0
  | ⟨0, p⟩, h => rfl
  | ⟨m + 1, x⟩, h => by
    obtain p | l' := x
    · rfl
    · exact absurd rfl h
theorem vw_cs_p {m : Nat} {x : Nod} (h : ¬ kdV (vw x) = 3) : vw ⟨m, cs m x⟩ = vw x := by
  match m with
  | 0 =>
    show vwP (csP (vw x)) = vw x
    revert h
    generalize vw x = v
    intro h
    obtain z | r | q | l := v
    · rfl
    · rfl
    · rfl
    · exact absurd rfl h
  | m + 1 =>
    have e : cs (m + 1) x = (show Pl ⊕ List (Th m) from .inl (csP (vw x))) := by
      show (match vw x with
        | .inr (.inr (.inr l)) => (show Pl ⊕ List (Th m) from .inr (l.2.map fun y => cs m ⟨l.1, y⟩))
        | v => (show Pl ⊕ List (Th m) from .inl (csP v))) = _
      revert h
      generalize vw x = v
      intro h
      obtain z | r | q | l := v
      · rfl
      · rfl
      · rfl
      · exact absurd rfl h
    rw [e]
    show vwP (csP (vw x)) = vw x
    revert h
    generalize vw x = v
    intro h
    obtain z | r | q | l := v
    · rfl
    · rfl
    · rfl
    · exact absurd rfl h
theorem vw_cs_k {m n : Nat} {x : Nod} {l : List (Th n)} (h : vw x = vP n l) : vw ⟨m + 1, cs (m + 1) x⟩ = vP m (l.map fun y => cs m ⟨n, y⟩) := by
  have e : cs (m + 1) x = (show Pl ⊕ List (Th m) from .inr (l.map fun y => cs m ⟨n, y⟩)) := by
    show (match vw x with
      | .inr (.inr (.inr l)) => (show Pl ⊕ List (Th m) from .inr (l.2.map fun y => cs m ⟨l.1, y⟩))
      | v => (show Pl ⊕ List (Th m) from .inl (csP v))) = _
    rw [h]
  rw [e]
  rfl
/-- what is told of x and of what it is brought to -/
theorem cs_ind (Q : Nod → Nod → Prop) (hp : ∀ x y, ¬ kdV (vw x) = 3 → vw y = vw x → Q x y) (hk : ∀ (n m : Nat) (l : List (Th n)) (l' : List (Th m)) x y, l'.length = l.length → (∀ i (hi : i < l.length) (hi' : i < l'.length), Q ⟨n, l[i]⟩ ⟨m, l'[i]⟩) → vw x = vP n l → vw y = vP m l' → Q x y) : ∀ (m : Nat) (x : Nod), dN x ≤ m → Q x ⟨m, cs m x⟩ := by
  intro m
  induction m with
  | zero =>
    intro x h
    by_cases k : kdV (vw x) = 3
    · obtain ⟨n, l, e⟩ := kdV_3 k
      have := dN_P e
      omega
    · exact hp _ _ k (vw_cs_p k)
  | succ m ih =>
    intro x h
    by_cases k : kdV (vw x) = 3
    · obtain ⟨n, l, e⟩ := kdV_3 k
      have hd := dN_P e
      have hd : mxL (l.map (dT n)) ≤ m := by omega
      refine hk n m l (l.map fun y => cs m ⟨n, y⟩) _ _ (List.length_map _) (fun i hi hi' => ?_) e (vw_cs_k e)
      rw [List.getElem_map]
      exact ih ⟨n, l[i]⟩ (mxL_le.mp hd _ (List.mem_map.mpr ⟨_, List.getElem_mem hi, rfl⟩))
    · exact hp _ _ k (vw_cs_p k)
theorem map_eq {α β γ : Type} {f : α → γ} {g : β → γ} : ∀ {l : List α} {l' : List β}, l'.length = l.length → (∀ i (hi : i < l.length) (hi' : i < l'.length), f l[i] = g l'[i]) → l.map f = l'.map g := by
  intro l l' hl h
  refine List.ext_getElem (by rw [List.length_map, List.length_map, hl]) (fun i h1 h2 => ?_)
  rw [List.getElem_map, List.getElem_map]
  exact h i (by rw [List.length_map] at h1; exact h1) (by rw [List.length_map] at h2; exact h2)
abbrev serN (x : Nod) : List Int32 := ser x.1 x.2
abbrev bulkN (x : Nod) : Nat := bulk x.1 x.2
def bulkV : Vw → Nat
  | .inl _ => 1
  | .inr (.inl r) => 1 + r.length
  | .inr (.inr (.inl q)) => 1 + (q.map fun r => 1 + r.length).sum
  | .inr (.inr (.inr l)) => 1 + (l.2.map (bulk l.1)).sum
theorem vw_bulk : ∀ x : Nod, bulkN x = bulkV (vw x)
  | ⟨0, p⟩ => by obtain z | r | q := p <;> rfl
  | ⟨m + 1, x⟩ => by
    obtain p | l' := x
    · obtain z | r | q := p <;> rfl
    · rfl
theorem wf_vw : ∀ x : Nod, wfV (vw x) → wfT x.1 x.2
  | ⟨0, p⟩ => fun h => by obtain x | r | q := p <;> exact h
  | ⟨n + 1, x⟩ => fun h => by
    obtain p | l := x
    · obtain x | r | q := p <;> exact h
    · exact h
abbrev wfN (x : Nod) : Prop := wfT x.1 x.2
theorem cs_ser {m : Nat} {x : Nod} (h : dN x ≤ m) : ser m (cs m x) = serN x := by
  refine (cs_ind (fun x y => serN x = serN y) (fun x y _ e => ?_) (fun n m l l' x y hl hi e e' => ?_) m x h).symm
  · show ser x.1 x.2 = ser y.1 y.2
    rw [vw_ser x, vw_ser y, e]
  · show ser x.1 x.2 = ser y.1 y.2
    rw [vw_ser x, vw_ser y, e, e']
    show (3 : Int32) :: Int32.ofNat l.length :: l.flatMap (ser n) = 3 :: Int32.ofNat l'.length :: l'.flatMap (ser m)
    rw [hl, List.flatMap_def, List.flatMap_def, map_eq (f := ser n) (g := ser m) hl hi]
theorem cs_bulk {m : Nat} {x : Nod} (h : dN x ≤ m) : bulk m (cs m x) = bulkN x := by
  refine (cs_ind (fun x y => bulkN x = bulkN y) (fun x y _ e => ?_) (fun n m l l' x y hl hi e e' => ?_) m x h).symm
  · rw [vw_bulk x, vw_bulk y, e]
  · rw [vw_bulk x, vw_bulk y, e, e']
    show 1 + (l.map (bulk n)).sum = 1 + (l'.map (bulk m)).sum
    rw [map_eq (f := bulk n) (g := bulk m) hl hi]
theorem cs_d {m : Nat} {x : Nod} (h : dN x ≤ m) : dT m (cs m x) = dN x := by
  refine (cs_ind (fun x y => dN x = dN y) (fun x y k e => ?_) (fun n m l l' x y hl hi e e' => ?_) m x h).symm
  · rw [dN_0 k, dN_0 (x := y) (by rw [e]; exact k)]
  · rw [dN_P e, dN_P e', map_eq (f := dT n) (g := dT m) hl hi]
theorem cs_wf {m : Nat} {x : Nod} (h : dN x ≤ m) (hw : wfN x) : wfT m (cs m x) := by
  refine cs_ind (fun x y => bulkN x = bulkN y ∧ (wfN x → wfN y)) (fun x y _ e => ⟨by rw [vw_bulk x, vw_bulk y, e], fun w => wf_vw y (by rw [e]; exact vw_wf x w)⟩) (fun n m l l' x y hl hi e e' => ?_) m x h |>.2 hw
  have hb := map_eq (f := bulk n) (g := bulk m) hl (fun i a b => (hi i a b).1)
  refine ⟨?_, fun w => wf_vw y ?_⟩
  · rw [vw_bulk x, vw_bulk y, e, e']
    show 1 + (l.map (bulk n)).sum = 1 + (l'.map (bulk m)).sum
    rw [hb]
  · have w := vw_wf x w
    rw [e] at w
    rw [e']
    obtain ⟨w1, w2, w3⟩ := (show l.length ≤ 20 ∧ 1 + (l.map (bulk n)).sum ≤ 600 ∧ ∀ y ∈ l, wfT n y from w)
    refine ⟨by show l'.length ≤ 20; omega, by show 1 + (l'.map (bulk m)).sum ≤ 600; rw [← hb]; exact w2, fun z hz => ?_⟩
    obtain ⟨i, h1, h2⟩ := List.getElem_of_mem hz
    rw [← h2]
    have h1 : i < l'.length := h1
    exact (hi i (by omega) h1).2 (w3 _ (List.getElem_mem _))
theorem cs_int {m : Nat} {x : Nod} (h : dN x ≤ m) : intT m (cs m x) = intV (vw x) := by
  refine (cs_ind (fun x y => intV (vw x) = intT y.1 y.2) (fun x y _ e => ?_) (fun n m l l' x y hl hi e e' => ?_) m x h).symm
  · rw [vw_int y, e]
  · rw [vw_int y, e, e']
    rfl
theorem cs_lay {m : Nat} {x : Nod} {g : Nat → Int32} {R : Nat → Prop} (h : dN x ≤ m) : ∀ {a : Nat}, LayN g R a x → LayN g R a ⟨m, cs m x⟩ := by
  refine (cs_ind (fun x y => intV (vw x) = intV (vw y) ∧ ∀ a : Nat, LayN g R a x → LayN g R a y) (fun x y _ e => ⟨by rw [e], fun a w => ?_⟩) (fun n m l l' x y hl hi e e' => ⟨by rw [e, e']; rfl, fun a w => ?_⟩) m x h).2 _
  · rw [LayN_iff] at w ⊢
    rw [e]
    exact w
  · rw [LayN_iff] at w ⊢
    rw [e] at w
    rw [e']
    obtain ⟨w1, w2, w3, w4⟩ := w
    have w3 : g (a + 1) = Int32.ofNat l.length := w3
    refine ⟨fun y hy1 hy2 => w1 y hy1 ?_, w2, by show g (a + 1) = Int32.ofNat l'.length; rw [hl]; exact w3, fun i hi' => ?_⟩
    · have hy2 : y < a + (2 + 2 * l'.length) := hy2
      show y < a + (2 + 2 * l.length)
      omega
    · have hl' : i < l.length := by omega
      obtain ⟨v1, v2⟩ := w4 i hl'
      obtain ⟨u1, u2⟩ := hi i hl' hi'
      have ei : intT m l'[i] = intT n l[i] := by rw [show intT m l'[i] = _ from vw_int ⟨m, l'[i]⟩, show intT n l[i] = _ from vw_int ⟨n, l[i]⟩, u1]
      refine ⟨fun z hz => v1 z (ei.symm.trans hz), fun hz => ?_⟩
      obtain ⟨b1, c, b2, b3⟩ := v2 (ei.symm.trans hz)
      exact ⟨b1, c, b2, u2 c b3⟩
end
-- ### 66.pure.lean.txt
section
/-! ===== PURE: same (the reference's): the stack gone over ===== -/
section SAB
variable {N : Nat} {R R' : Nat → Prop}
theorem fD_nxt {s : mS} {d i : Nat} : fD s (nxt s d i) := ⟨fun _ _ => rfl, fun _ _ => rfl, fun q r => if_neg (fun z => r (Or.inr (Or.inr z))), fun _ _ => rfl⟩
theorem fD_gin {s : mS} {d a b : Nat} : fD s (gin s d a b) := by
  refine ⟨fun q r => if_neg r, fun _ _ => rfl, fun q r => ?_, fun _ _ => rfl⟩
  show (if q = 54 then _ else if q = 53 then _ else if q = 52 then _ else s.2.2.1 q) = _
  rw [if_neg (fun z => r (Or.inr (Or.inr z))), if_neg (fun z => r (Or.inr (Or.inl z))), if_neg (fun z => r (Or.inl z))]
/-- what is told of going over the parts of both from i on -/
def sdR (N n : Nat) (l l' : List (Th n)) (i d : Nat) (s : mS) : Prop := ∃ k s', k ≤ 2 * ((l.drop i).map (bulk n)).sum + 2 ∧ fD s s' ∧ ((l.drop i).map (ser n) = (l'.drop i).map (ser n) → k ≤ 2 * ((l.drop i).map (bulk n)).sum + 1 ∧ (∀ f, mf_346_L1 N (f + k) 0 1 s = mf_346_L1 N f 0 1 s') ∧ s'.1 55 = Int32.ofNat d ∧ ∀ j, j < d → s'.2.2.1 52 j = s.2.2.1 52 j ∧ s'.2.2.1 53 j = s.2.2.1 53 j ∧ s'.2.2.1 54 j = s.2.2.1 54 j) ∧ (¬ (l.drop i).map (ser n) = (l'.drop i).map (ser n) → ∀ f, mf_346_L1 N (f + k) 0 1 s = some (s', some (.int 0)))
theorem sd_no {n i d k1 : Nat} {l l' : List (Th n)} {s s1 : mS} (hi : i < l.length) (hi' : i < l'.length) (hst : ∀ f, mf_346_L1 N (f + k1) 0 1 s = mf_346_L1 N f 0 0 s1) (hk : k1 ≤ 2 * bulk n l[i] + 1) (hf : fD s s1) (hn : ¬ ser n l[i] = ser n l'[i]) : sdR N n l l' i d s := by
  have hne : ¬ (l.drop i).map (ser n) = (l'.drop i).map (ser n) := fun q => by
    rw [List.drop_eq_getElem_cons hi, List.drop_eq_getElem_cons hi'] at q
    exact hn (List.cons.inj q).1
  refine ⟨k1 + 1, s1, ?_, hf, fun q => absurd q hne, fun _ f => ?_⟩
  · rw [List.drop_eq_getElem_cons hi, List.map_cons, List.sum_cons]
    omega
  · rw [show f + (k1 + 1) = (f + 1) + k1 by omega, hst, sm_0]
theorem sd_tail {n i d k1 : Nat} {l l' : List (Th n)} {s s1 : mS} (hi : i < l.length) (hi' : i < l'.length) (hst : ∀ f, mf_346_L1 N (f + k1) 0 1 s = mf_346_L1 N f 0 1 s1) (hk1 : k1 ≤ 2 * bulk n l[i]) (hn : ser n l[i] = ser n l'[i]) (hj : ∀ j, j < d → s1.2.2.1 52 j = s.2.2.1 52 j ∧ s1.2.2.1 53 j = s.2.2.1 53 j ∧ s1.2.2.1 54 j = s.2.2.1 54 j) (hf : fD s s1) (q : sdR N n l l' (i + 1) d s1) : sdR N n l l' i d s := by
  obtain ⟨k, s', q1, q2, q3, q4⟩ := q
  have ed := List.drop_eq_getElem_cons hi
  have ed' := List.drop_eq_getElem_cons hi'
  refine ⟨k + k1, s', ?_, hf.tr q2, fun e => ?_, fun e f => ?_⟩
  · rw [ed, List.map_cons, List.sum_cons]
    omega
  · rw [ed, ed'] at e
    obtain ⟨r0, r1, r2, r3⟩ := q3 (List.cons.inj e).2
    exact ⟨by rw [ed, List.map_cons, List.sum_cons]; omega, fun f => by rw [← Nat.add_assoc, hst, r1], r2, fun j h => ⟨(r3 j h).1.trans (hj j h).1, (r3 j h).2.1.trans (hj j h).2.1, (r3 j h).2.2.trans (hj j h).2.2⟩⟩
  · rw [← Nat.add_assoc, hst]
    exact q4 (fun q => e (by rw [ed, ed', List.map_cons, List.map_cons, hn, q])) f
theorem sm_end {d a i n : Nat} {s : mS} {l : List (Th n)} {P : Nat → Nod → Prop} (hd : d < 8) (h55 : s.1 55 = Int32.ofNat (d + 1)) (h52 : s.2.2.1 52 d = Int32.ofNat a) (h54 : s.2.2.1 54 d = Int32.ofNat i) (H : Wy (s.2.2.1 47) a P (vP n l)) (ha : a + wV wn (vP n l) ≤ 166300) (hi : i = l.length) : ∀ f, mf_346_L1 N (f + 1) 0 1 s = mf_346_L1 N f 0 1 (mI s 55 (Int32.ofNat d)) := by
  intro f
  have hwa : a + (2 + 2 * l.length) ≤ 166300 := ha
  have hz := r_size (N := N) H ha
  show mf_346_64 N (mf_346_L1 N f) 1 s = _
  repeat ((first | unfold mf_346 | unfold mf_346_0 | unfold mf_346_15 | unfold mf_346_17 | unfold mf_346_27 | unfold mf_346_33 | unfold mf_346_34 | unfold mf_346_39 | unfold mf_346_44 | unfold mf_346_47 | unfold mf_346_51 | unfold mf_346_52 | unfold mf_346_64 | unfold mf_346_68 | unfold mf_346_75 | unfold mf_346_122 | unfold mf_346_125 | unfold mf_346_138 | unfold mf_346_161 | unfold mf_346_164 | unfold mf_346_172 | unfold mf_346_175 | unfold mf_346_183 | unfold mf_346_186 | unfold mf_346_194 | unfold mf_346_197 | unfold mf_346_228 | unfold mf_346_232 | unfold mf_346_233 | unfold mf_346_237 | unfold mf_346_245 | unfold mf_346_255 | unfold mf_346_274 | unfold mf_346_285 | unfold mf_346_291 | unfold mf_346_297 | unfold mf_346_300 | unfold mf_346_303 | unfold mf_346_311 | unfold mf_346_314 | unfold mf_346_318 | unfold mf_346_319 | unfold mf_346_331 | unfold mf_346_339 | unfold mf_346_342); try simp (disch := omega) only [ev_S, ev_P, ↓reduceIte, Nat.reduceEqDiff, Nat.reduceLeDiff, Nat.reduceAdd, Nat.reduceMul, Nat.reduceSub, reduceCtorEq, l32_0, l32_1, l32_2, l32_3, l32_4, l32_8, l32_47, l32_52, l32_53, l32_54, l32_55, l32_166300, h55, h52, h54, hz, szV, hi])
theorem sd_all (hN : 170000 ≤ N) (hR : ∀ y, R y → y < 166300) (hR' : ∀ y, R' y → y < 166300) : ∀ (n e i d a b : Nat) (l l' : List (Th n)) (s : mS), i + e = l.length → d + n < 7 → s.1 55 = Int32.ofNat (d + 1) → s.2.2.1 52 d = Int32.ofNat a → s.2.2.1 53 d = Int32.ofNat b → s.2.2.1 54 d = Int32.ofNat i → Wy (s.2.2.1 47) a (LayN (s.2.2.1 47) R) (vP n l) → a + wV wn (vP n l) ≤ 166300 → Wy (s.2.2.1 47) b (LayN (s.2.2.1 47) R') (vP n l') → b + wV wn (vP n l') ≤ 166300 → l.length = l'.length → (∀ y ∈ l, wfT n y) → (∀ y ∈ l', wfT n y) → sdR N n l l' i d s := by
  intro n
  induction n with
  | zero =>
    intro e
    induction e with
    | zero =>
      intro i d a b l l' s hi hd h55 h52 h53 h54 H ha H' hb hl hw hw'
      refine ⟨1, mI s 55 (Int32.ofNat d), by omega, ⟨fun q r => if_neg r, fun _ _ => rfl, fun _ _ => rfl, fun _ _ => rfl⟩, fun _ => ⟨by omega, sm_end (by omega) h55 h52 h54 H ha hi, rfl, fun _ _ => ⟨rfl, rfl, rfl⟩⟩, fun q => absurd ?_ q⟩
      rw [show i = l.length from hi, List.drop_length, hl, List.drop_length]
    | succ e ih =>
      intro i d a b l l' s hi hd h55 h52 h53 h54 H ha H' hb hl hw hw'
      have hi1 : i < l.length := by omega
      have hi1' : i < l'.length := by omega
      have hbp := bulk_pos 0 l[i]
      obtain q | ⟨c, c', q1, q2⟩ | ⟨c, c', m, w, w', q1, q2, -⟩ := sm_part (N := N) hN hR hR' (by omega) h55 h52 h53 h54 H ha H' hb hl hi1 hw hw'
      · by_cases k : ser 0 l[i] = ser 0 l'[i]
        · rw [if_pos k] at q
          exact sd_tail hi1 hi1' q (by omega) k (fun j hj => ⟨rfl, rfl, if_neg (by omega)⟩) fD_nxt (ih (i + 1) d a b l l' (nxt s d i) (by omega) hd h55 h52 h53 (if_pos rfl) H ha H' hb hl hw hw')
        · rw [if_neg k] at q
          exact sd_no hi1 hi1' q (by omega) fD_nxt k
      · exact sd_no hi1 hi1' q2 (by omega) (mfr.tr (s1 := nxt s d i) fD_nxt fD_gin) q1
      · exact absurd q1 (fun q => by
          generalize l[i] = x at q
          obtain z | r | q' := x <;> cases q)
  | succ n ihn =>
    intro e
    induction e with
    | zero =>
      intro i d a b l l' s hi hd h55 h52 h53 h54 H ha H' hb hl hw hw'
      refine ⟨1, mI s 55 (Int32.ofNat d), by omega, ⟨fun q r => if_neg r, fun _ _ => rfl, fun _ _ => rfl, fun _ _ => rfl⟩, fun _ => ⟨by omega, sm_end (by omega) h55 h52 h54 H ha hi, rfl, fun _ _ => ⟨rfl, rfl, rfl⟩⟩, fun q => absurd ?_ q⟩
      rw [show i = l.length from hi, List.drop_length, hl, List.drop_length]
    | succ e ih =>
      intro i d a b l l' s hi hd h55 h52 h53 h54 H ha H' hb hl hw hw'
      have hi1 : i < l.length := by omega
      have hi1' : i < l'.length := by omega
      have hbp := bulk_pos (n + 1) l[i]
      obtain q | ⟨c, c', q1, q2⟩ | ⟨c, c', m, w, w', q1, q2, q3, q4, q5, q6, q7⟩ := sm_part (N := N) hN hR hR' (by omega) h55 h52 h53 h54 H ha H' hb hl hi1 hw hw'
      · by_cases k : ser (n + 1) l[i] = ser (n + 1) l'[i]
        · rw [if_pos k] at q
          exact sd_tail hi1 hi1' q (by omega) k (fun j hj => ⟨rfl, rfl, if_neg (by omega)⟩) fD_nxt (ih (i + 1) d a b l l' (nxt s d i) (by omega) hd h55 h52 h53 (if_pos rfl) H ha H' hb hl hw hw')
        · rw [if_neg k] at q
          exact sd_no hi1 hi1' q (by omega) fD_nxt k
      · exact sd_no hi1 hi1' q2 (by omega) (mfr.tr (s1 := nxt s d i) fD_nxt fD_gin) q1
      · have em : n = m := by
          have key : ∀ (x : Th (n + 1)), vw ⟨n + 1, x⟩ = vP m w → n = m := fun x h => by
            obtain p | l := x
            · obtain z | r | q := p <;> cases h
            · cases h
              rfl
          exact key _ q1
        subst em
        have s1 : ser (n + 1) l[i] = _ := vw_ser ⟨n + 1, l[i]⟩
        have s2 : ser (n + 1) l'[i] = _ := vw_ser ⟨n + 1, l'[i]⟩
        have b1 : bulk (n + 1) l[i] = _ := vw_bulk ⟨n + 1, l[i]⟩
        have w1 := vw_wf ⟨n + 1, l[i]⟩ (hw _ (List.getElem_mem _))
        have w2 := vw_wf ⟨n + 1, l'[i]⟩ (hw' _ (List.getElem_mem _))
        rw [q1] at s1 b1 w1
        rw [q2] at s2 w2
        have s1 : ser (n + 1) l[i] = 3 :: Int32.ofNat w.length :: w.flatMap (ser n) := s1
        have s2 : ser (n + 1) l'[i] = 3 :: Int32.ofNat w'.length :: w'.flatMap (ser n) := s2
        have b1 : bulk (n + 1) l[i] = 1 + (w.map (bulk n)).sum := b1
        have hfr : fD s (gin (nxt s d i) (d + 1) c c') := mfr.tr (s1 := nxt s d i) fD_nxt fD_gin
        by_cases k : w.length = w'.length
        · rw [if_pos k] at q3
          obtain ⟨k2, s', r1, r2, r3, r4⟩ := ihn w.length 0 (d + 1) c c' w w' (gin (nxt s d i) (d + 1) c c') (Nat.zero_add _) (by omega) rfl (if_pos rfl) (if_pos rfl) (if_pos rfl) q4 q5 q6 q7 k w1.2.2 w2.2.2
          rw [List.drop_zero, List.drop_zero] at r3 r4
          rw [List.drop_zero] at r1
          by_cases k3 : w.map (ser n) = w'.map (ser n)
          · obtain ⟨u0, u1, u2, u3⟩ := r3 k3
            have e47 : s'.2.2.1 47 = s.2.2.1 47 := (r2.2.2.1 47 (by omega)).trans (hfr.2.2.1 47 (by omega))
            have u := u3 d (by omega)
            refine sd_tail (k1 := k2 + 1) (s1 := s') hi1 hi1' (fun f => by rw [← Nat.add_assoc, q3, u1]) (by omega) ?_ (fun j hj => ?_) (mfr.tr (s1 := gin (nxt s d i) (d + 1) c c') hfr r2) (ih (i + 1) d a b l l' s' (by omega) hd u2 ?_ ?_ ?_ (by rw [e47]; exact H) ha (by rw [e47]; exact H') hb hl hw hw')
            · rw [s1, s2, k, List.flatMap_def, List.flatMap_def, k3]
            · obtain ⟨v1, v2, v3⟩ := u3 j (by omega)
              refine ⟨v1.trans (if_neg (by omega)), v2.trans (if_neg (by omega)), v3.trans ?_⟩
              show upd (upd (s.2.2.1 54) d _) (d + 1) _ j = _
              rw [upd_n (by omega), upd_n (by omega)]
            · exact u.1.trans ((if_neg (by omega)).trans h52)
            · exact u.2.1.trans ((if_neg (by omega)).trans h53)
            · refine u.2.2.trans ?_
              show upd (upd (s.2.2.1 54) d _) (d + 1) _ d = _
              rw [upd_n (by omega), upd_s]
          · have u := r4 k3
            have hn : ¬ ser (n + 1) l[i] = ser (n + 1) l'[i] := fun q => by
              rw [s1, s2] at q
              have q := (List.cons.inj (List.cons.inj q).2).2
              exact k3 (flat_pre (g := ser n) (p := wfT n) (fun x y l l' => ser_pre n x y l l') w w' [] [] k w1.2.2 w2.2.2 (by rw [List.append_nil, List.append_nil]; exact q)).1
            have hne : ¬ (l.drop i).map (ser (n + 1)) = (l'.drop i).map (ser (n + 1)) := fun q => by
              rw [List.drop_eq_getElem_cons hi1, List.drop_eq_getElem_cons hi1'] at q
              exact hn (List.cons.inj q).1
            refine ⟨k2 + 1, s', ?_, mfr.tr (s1 := gin (nxt s d i) (d + 1) c c') hfr r2, fun q => absurd q hne, fun _ f => ?_⟩
            · rw [List.drop_eq_getElem_cons hi1, List.map_cons, List.sum_cons]
              omega
            · rw [← Nat.add_assoc, q3, u]
        · rw [if_neg k] at q3
          refine sd_no hi1 hi1' q3 (by omega) hfr (fun q => ?_)
          rw [s1, s2] at q
          have := ofNat_inj (by have : w.length ≤ 20 := w1.1; omega) (by have : w'.length ≤ 20 := w2.1; omega) (List.cons.inj (List.cons.inj q).2).1
          omega
/-- two THINGS that are no INTS -/
theorem r_areSame {a b : Nat} {s : mS} {x y : Th 4} (hN : 170000 ≤ N) (hR : ∀ y, R y → y < 166300) (hR' : ∀ y, R' y → y < 166300) (H : LayN (s.2.2.1 47) R a ⟨4, x⟩) (H' : LayN (s.2.2.1 47) R' b ⟨4, y⟩) (hw : wfT 4 x) (hw' : wfT 4 y) : ∃ s', mf_346 N (Int32.ofNat a) (Int32.ofNat b) s = some (s', some (.int (if ser 4 x = ser 4 y then 1 else 0))) ∧ fD s s' := by
  obtain ⟨L1, L2⟩ := LayN_iff.mp H
  obtain ⟨L1', L2'⟩ := LayN_iff.mp H'
  have k1 := L2.kd
  have k2 := L2'.kd
  have hc : a + wV wn (vw ⟨4, x⟩) ≤ 166300 := by
    have := hR _ (L1 (a + wV wn (vw ⟨4, x⟩) - 1) (by omega) (by omega))
    omega
  have hc' : b + wV wn (vw ⟨4, y⟩) ≤ 166300 := by
    have := hR' _ (L1' (b + wV wn (vw ⟨4, y⟩) - 1) (by omega) (by omega))
    omega
  have w1 := vw_wf ⟨4, x⟩ hw
  have w2 := vw_wf ⟨4, y⟩ hw'
  have s1 : ser 4 x = _ := vw_ser ⟨4, x⟩
  have s2 : ser 4 y = _ := vw_ser ⟨4, y⟩
  have hd := @vw_dep 4
  have b1 : bulk 4 x = _ := vw_bulk ⟨4, x⟩
  have hbw := bulk_wf 4 x hw
  have v4 : ∀ m w, vw ⟨4, x⟩ = vP m w → m = 3 := fun m w h => by
    revert h
    generalize x = x
    intro h
    obtain p | l := x
    · obtain z | r | q := p <;> cases h
    · cases h
      rfl
  have v4' : ∀ m w, vw ⟨4, y⟩ = vP m w → m = 3 := fun m w h => by
    revert h
    generalize y = x
    intro h
    obtain p | l := x
    · obtain z | r | q := p <;> cases h
    · cases h
      rfl
  rw [s1, s2]
  generalize vw ⟨4, x⟩ = V at *
  generalize vw ⟨4, y⟩ = V' at *
  have k1a : s.2.2.1 47 a = kdV V := k1.1
  have k2a : s.2.2.1 47 b = kdV V' := k2.1
  have k1b := k1.2.2
  have k2b := k2.2.2
  have c1 : a < 166300 := by omega
  have c2 : b < 166300 := by omega
  by_cases hk : kdV V = kdV V'
  · by_cases h3 : kdV V = 3
    · obtain ⟨m, w, rfl⟩ := kdV_3 h3
      obtain ⟨m', w', rfl⟩ := kdV_3 (hk.symm.trans h3)
      cases v4 _ _ rfl
      cases v4' _ _ rfl
      have z1 := r_size (N := N) L2 hc
      have z2 := r_size (N := N) L2' hc'
      have k1a : s.2.2.1 47 a = 3 := k1a
      have k2a : s.2.2.1 47 b = 3 := k2a
      have wl : w.length ≤ 20 := w1.1
      have wl' : w'.length ≤ 20 := w2.1
      have b1 : bulk 4 x = 1 + (w.map (bulk 3)).sum := b1
      have gg := r_goesIn (N := N) (s := mI s 55 (Int32.ofNat 0)) (d := 0) (a := a) (b := b) (by omega) rfl
      have hf0 : fD s (gin (mI s 55 (Int32.ofNat 0)) 0 a b) := mfr.tr (s1 := mI s 55 (Int32.ofNat 0)) ⟨fun q r => if_neg r, fun _ _ => rfl, fun _ _ => rfl, fun _ _ => rfl⟩ fD_gin
      by_cases e : w.length = w'.length
      · obtain ⟨k2, s', r1, r2, r3, r4⟩ := sd_all (N := N) hN hR hR' 3 w.length 0 0 a b w w' (gin (mI s 55 (Int32.ofNat 0)) 0 a b) (Nat.zero_add _) (by omega) rfl rfl rfl rfl L2 hc L2' hc' e w1.2.2 w2.2.2
        rw [List.drop_zero, List.drop_zero] at r3 r4
        rw [List.drop_zero] at r1
        refine ⟨s', ?_, mfr.tr (s1 := gin (mI s 55 (Int32.ofNat 0)) 0 a b) hf0 r2⟩
        have hst : mf_346 N (Int32.ofNat a) (Int32.ofNat b) s = mf_346_L1 N N 0 1 (gin (mI s 55 (Int32.ofNat 0)) 0 a b) := by
          repeat ((first | unfold mf_346 | unfold mf_346_0 | unfold mf_346_15 | unfold mf_346_17 | unfold mf_346_27 | unfold mf_346_33 | unfold mf_346_34 | unfold mf_346_39 | unfold mf_346_44 | unfold mf_346_47 | unfold mf_346_51 | unfold mf_346_52 | unfold mf_346_64 | unfold mf_346_68 | unfold mf_346_75 | unfold mf_346_122 | unfold mf_346_125 | unfold mf_346_138 | unfold mf_346_161 | unfold mf_346_164 | unfold mf_346_172 | unfold mf_346_175 | unfold mf_346_183 | unfold mf_346_186 | unfold mf_346_194 | unfold mf_346_197 | unfold mf_346_228 | unfold mf_346_232 | unfold mf_346_233 | unfold mf_346_237 | unfold mf_346_245 | unfold mf_346_255 | unfold mf_346_274 | unfold mf_346_285 | unfold mf_346_291 | unfold mf_346_297 | unfold mf_346_300 | unfold mf_346_303 | unfold mf_346_311 | unfold mf_346_314 | unfold mf_346_318 | unfold mf_346_319 | unfold mf_346_331 | unfold mf_346_339 | unfold mf_346_342); try simp (disch := omega) only [ev_S, ev_P, ↓reduceIte, Nat.reduceEqDiff, Nat.reduceLeDiff, Nat.reduceAdd, Nat.reduceMul, Nat.reduceSub, reduceCtorEq, l32_0, l32_1, l32_2, l32_3, l32_4, l32_8, l32_47, l32_52, l32_53, l32_54, l32_55, l32_166300, k1a, k2a, z1, z2, szV, e, gg])
        rw [hst]
        by_cases k3 : w.map (ser 3) = w'.map (ser 3)
        · obtain ⟨-, u1, u2, -⟩ := r3 k3
          have u1 := u1 (N - k2)
          rw [show N - k2 + k2 = N by omega] at u1
          rw [u1, if_pos (show serV (vP 3 w) = serV (vP 3 w') by
            show (3 : Int32) :: Int32.ofNat w.length :: w.flatMap (ser 3) = 3 :: Int32.ofNat w'.length :: w'.flatMap (ser 3)
            rw [e, List.flatMap_def, List.flatMap_def, k3])]
          have e2 : N - k2 = (N - k2 - 1) + 1 := by omega
          rw [e2]
          show mf_346_64 N (mf_346_L1 N (N - k2 - 1)) 1 s' = _
          repeat ((first | unfold mf_346 | unfold mf_346_0 | unfold mf_346_15 | unfold mf_346_17 | unfold mf_346_27 | unfold mf_346_33 | unfold mf_346_34 | unfold mf_346_39 | unfold mf_346_44 | unfold mf_346_47 | unfold mf_346_51 | unfold mf_346_52 | unfold mf_346_64 | unfold mf_346_68 | unfold mf_346_75 | unfold mf_346_122 | unfold mf_346_125 | unfold mf_346_138 | unfold mf_346_161 | unfold mf_346_164 | unfold mf_346_172 | unfold mf_346_175 | unfold mf_346_183 | unfold mf_346_186 | unfold mf_346_194 | unfold mf_346_197 | unfold mf_346_228 | unfold mf_346_232 | unfold mf_346_233 | unfold mf_346_237 | unfold mf_346_245 | unfold mf_346_255 | unfold mf_346_274 | unfold mf_346_285 | unfold mf_346_291 | unfold mf_346_297 | unfold mf_346_300 | unfold mf_346_303 | unfold mf_346_311 | unfold mf_346_314 | unfold mf_346_318 | unfold mf_346_319 | unfold mf_346_331 | unfold mf_346_339 | unfold mf_346_342); try simp (disch := omega) only [ev_S, ev_P, ↓reduceIte, Nat.reduceEqDiff, Nat.reduceLeDiff, Nat.reduceAdd, Nat.reduceMul, Nat.reduceSub, reduceCtorEq, l32_0, l32_1, l32_2, l32_3, l32_4, l32_8, l32_47, l32_52, l32_53, l32_54, l32_55, l32_166300, u2])
        · have u1 := r4 k3 (N - k2)
          rw [show N - k2 + k2 = N by omega] at u1
          rw [u1, if_neg (fun q => k3 ?_)]
          have q := (List.cons.inj (List.cons.inj q).2).2
          exact (flat_pre (g := ser 3) (p := wfT 3) (fun x y l l' => ser_pre 3 x y l l') w w' [] [] e w1.2.2 w2.2.2 (by rw [List.append_nil, List.append_nil]; exact q)).1
      · refine ⟨gin (mI s 55 (Int32.ofNat 0)) 0 a b, ?_, hf0⟩
        have hst : mf_346 N (Int32.ofNat a) (Int32.ofNat b) s = mf_346_L1 N N 0 0 (gin (mI s 55 (Int32.ofNat 0)) 0 a b) := by
          repeat ((first | unfold mf_346 | unfold mf_346_0 | unfold mf_346_15 | unfold mf_346_17 | unfold mf_346_27 | unfold mf_346_33 | unfold mf_346_34 | unfold mf_346_39 | unfold mf_346_44 | unfold mf_346_47 | unfold mf_346_51 | unfold mf_346_52 | unfold mf_346_64 | unfold mf_346_68 | unfold mf_346_75 | unfold mf_346_122 | unfold mf_346_125 | unfold mf_346_138 | unfold mf_346_161 | unfold mf_346_164 | unfold mf_346_172 | unfold mf_346_175 | unfold mf_346_183 | unfold mf_346_186 | unfold mf_346_194 | unfold mf_346_197 | unfold mf_346_228 | unfold mf_346_232 | unfold mf_346_233 | unfold mf_346_237 | unfold mf_346_245 | unfold mf_346_255 | unfold mf_346_274 | unfold mf_346_285 | unfold mf_346_291 | unfold mf_346_297 | unfold mf_346_300 | unfold mf_346_303 | unfold mf_346_311 | unfold mf_346_314 | unfold mf_346_318 | unfold mf_346_319 | unfold mf_346_331 | unfold mf_346_339 | unfold mf_346_342); try simp (disch := omega) only [ev_S, ev_P, ↓reduceIte, Nat.reduceEqDiff, Nat.reduceLeDiff, Nat.reduceAdd, Nat.reduceMul, Nat.reduceSub, reduceCtorEq, l32_0, l32_1, l32_2, l32_3, l32_4, l32_8, l32_47, l32_52, l32_53, l32_54, l32_55, l32_166300, k1a, k2a, z1, z2, szV, e, gg])
        rw [hst, if_neg (show ¬ serV (vP 3 w) = serV (vP 3 w') from fun q => e (ofNat_inj (by omega) (by omega) (List.cons.inj (List.cons.inj q).2).1))]
        have e2 : N = (N - 1) + 1 := by omega
        generalize N - 1 = f at e2
        rw [show mf_346_L1 N N = mf_346_L1 N (f + 1) from congrArg _ e2]
        exact sm_0
    · have es := r_plainSame hN hR hR' L2 hc L2' hc' hk h3 w1 w2
      refine ⟨s, ?_, mfr.rf⟩
      have h3' : ¬ kdV V' = Int32.ofNat 3 := hk ▸ h3
      by_cases e : serV V = serV V'
      · rw [if_pos e] at es ⊢
        repeat ((first | unfold mf_346 | unfold mf_346_0 | unfold mf_346_15 | unfold mf_346_17 | unfold mf_346_27 | unfold mf_346_33 | unfold mf_346_34 | unfold mf_346_39 | unfold mf_346_44 | unfold mf_346_47 | unfold mf_346_51 | unfold mf_346_52 | unfold mf_346_64 | unfold mf_346_68 | unfold mf_346_75 | unfold mf_346_122 | unfold mf_346_125 | unfold mf_346_138 | unfold mf_346_161 | unfold mf_346_164 | unfold mf_346_172 | unfold mf_346_175 | unfold mf_346_183 | unfold mf_346_186 | unfold mf_346_194 | unfold mf_346_197 | unfold mf_346_228 | unfold mf_346_232 | unfold mf_346_233 | unfold mf_346_237 | unfold mf_346_245 | unfold mf_346_255 | unfold mf_346_274 | unfold mf_346_285 | unfold mf_346_291 | unfold mf_346_297 | unfold mf_346_300 | unfold mf_346_303 | unfold mf_346_311 | unfold mf_346_314 | unfold mf_346_318 | unfold mf_346_319 | unfold mf_346_331 | unfold mf_346_339 | unfold mf_346_342); try simp (disch := omega) only [ev_S, ev_P, ↓reduceIte, Nat.reduceEqDiff, Nat.reduceLeDiff, Nat.reduceAdd, Nat.reduceMul, Nat.reduceSub, reduceCtorEq, l32_0, l32_1, l32_2, l32_3, l32_4, l32_8, l32_47, l32_52, l32_53, l32_54, l32_55, l32_166300, k1a, k2a, hk, h3', es])
      · rw [if_neg e] at es ⊢
        repeat ((first | unfold mf_346 | unfold mf_346_0 | unfold mf_346_15 | unfold mf_346_17 | unfold mf_346_27 | unfold mf_346_33 | unfold mf_346_34 | unfold mf_346_39 | unfold mf_346_44 | unfold mf_346_47 | unfold mf_346_51 | unfold mf_346_52 | unfold mf_346_64 | unfold mf_346_68 | unfold mf_346_75 | unfold mf_346_122 | unfold mf_346_125 | unfold mf_346_138 | unfold mf_346_161 | unfold mf_346_164 | unfold mf_346_172 | unfold mf_346_175 | unfold mf_346_183 | unfold mf_346_186 | unfold mf_346_194 | unfold mf_346_197 | unfold mf_346_228 | unfold mf_346_232 | unfold mf_346_233 | unfold mf_346_237 | unfold mf_346_245 | unfold mf_346_255 | unfold mf_346_274 | unfold mf_346_285 | unfold mf_346_291 | unfold mf_346_297 | unfold mf_346_300 | unfold mf_346_303 | unfold mf_346_311 | unfold mf_346_314 | unfold mf_346_318 | unfold mf_346_319 | unfold mf_346_331 | unfold mf_346_339 | unfold mf_346_342); try simp (disch := omega) only [ev_S, ev_P, ↓reduceIte, Nat.reduceEqDiff, Nat.reduceLeDiff, Nat.reduceAdd, Nat.reduceMul, Nat.reduceSub, reduceCtorEq, l32_0, l32_1, l32_2, l32_3, l32_4, l32_8, l32_47, l32_52, l32_53, l32_54, l32_55, l32_166300, k1a, k2a, hk, h3', es])
  · refine ⟨s, ?_, mfr.rf⟩
    rw [if_neg (serV_kd hk)]
    repeat ((first | unfold mf_346 | unfold mf_346_0 | unfold mf_346_15 | unfold mf_346_17 | unfold mf_346_27 | unfold mf_346_33 | unfold mf_346_34 | unfold mf_346_39 | unfold mf_346_44 | unfold mf_346_47 | unfold mf_346_51 | unfold mf_346_52 | unfold mf_346_64 | unfold mf_346_68 | unfold mf_346_75 | unfold mf_346_122 | unfold mf_346_125 | unfold mf_346_138 | unfold mf_346_161 | unfold mf_346_164 | unfold mf_346_172 | unfold mf_346_175 | unfold mf_346_183 | unfold mf_346_186 | unfold mf_346_194 | unfold mf_346_197 | unfold mf_346_228 | unfold mf_346_232 | unfold mf_346_233 | unfold mf_346_237 | unfold mf_346_245 | unfold mf_346_255 | unfold mf_346_274 | unfold mf_346_285 | unfold mf_346_291 | unfold mf_346_297 | unfold mf_346_300 | unfold mf_346_303 | unfold mf_346_311 | unfold mf_346_314 | unfold mf_346_318 | unfold mf_346_319 | unfold mf_346_331 | unfold mf_346_339 | unfold mf_346_342); try simp (disch := omega) only [ev_S, ev_P, ↓reduceIte, Nat.reduceEqDiff, Nat.reduceLeDiff, Nat.reduceAdd, Nat.reduceMul, Nat.reduceSub, reduceCtorEq, l32_0, l32_1, l32_2, l32_3, l32_4, l32_8, l32_47, l32_52, l32_53, l32_54, l32_55, l32_166300, k1a, k2a, hk])
end SAB
end
-- ### 66b.pure.lean.txt
section
/-! ===== PURE: same ===== -/
section SAC
variable {N : Nat} {X : Nat → Option zz_C} {S : Nat → Option (Th 4)} {σ0 k : Nat} {μ : Nat → Nat} {t : cS} {s : mS}
/-- what a slot holds: nothing, an INT, or a THING that is none -/
theorem slot3 {g : Nat → Int32} {j : Nat} {o : Option (Th 4)} (H : rSl g j o) : (o = none ∧ g (2410 * j) = -1) ∨ (∃ x z, o = some x ∧ ser 4 x = [0, z] ∧ g (2410 * j) = 0 ∧ g (2410 * j + 1) = z) ∨ (∃ x, ∃ m : Nat, o = some x ∧ g (2410 * j) = Int32.ofNat (m + 1) ∧ m < 3 ∧ kdV (vw ⟨4, x⟩) = Int32.ofNat (m + 1) ∧ LayN g (Rk j) (2410 * j) ⟨4, x⟩) := by
  have hd := H.hd
  cases o with
  | none => exact Or.inl ⟨rfl, hd⟩
  | some x =>
    have hd : g (2410 * j) = kdT 4 x := hd
    unfold rSl at H
    dsimp only at H
    cases hz : intT 4 x with
    | some z =>
      rw [hz] at H
      exact Or.inr (Or.inl ⟨x, z, rfl, int_ser hz, H.1, H.2⟩)
    | none =>
      rw [hz] at H
      refine Or.inr (Or.inr ?_)
      have hv : intV (vw ⟨4, x⟩) = none := (vw_int ⟨4, x⟩).symm.trans hz
      have hk := vw_kd ⟨4, x⟩
      rw [show kdT 4 x = kdV (vw ⟨4, x⟩) from hk] at hd
      have key : ∃ m : Nat, m < 3 ∧ kdV (vw ⟨4, x⟩) = Int32.ofNat (m + 1) := by
        generalize vw ⟨4, x⟩ = V at hv
        obtain y | r | q | w := V
        · cases hv
        · exact ⟨0, by omega, rfl⟩
        · exact ⟨1, by omega, rfl⟩
        · exact ⟨2, by omega, rfl⟩
      obtain ⟨m, m1, m2⟩ := key
      exact ⟨x, m, rfl, hd.trans m2, m1, m2, H⟩
theorem p_same (hN : 170000 ≤ N) (h : iS S σ0 k μ t s) (a b : Int32) : ∃ s', ∃ v : Int32, cf_17 N X a b t = some (t, .inl (some (.int v))) ∧ mf_82 N a b s = some (s', some (.int v)) ∧ fD s s' := by
  obtain ⟨h1, h2, h3, h4, ⟨h5, h50⟩, h6, h7, -⟩ := h
  have h5a := h5.1
  rcases isSh a with ⟨j, hj, rfl, q1, q2⟩ | ⟨q1, q2⟩
  · rcases isSh b with ⟨j', hj', rfl, q3, q4⟩ | ⟨q3, q4⟩
    · have hc := c_alike (N := N) (X := X) (by omega) h5 hj hj' (h6 j hj).1 (h6 j' hj').1 (serO_len (fun y hy => h7 j y hy)) (serO_len (fun y hy => h7 j' y hy))
      have hcl : ∀ v : Int32, (if serO (S j) = serO (S j') then (1 : Int32) else 0) = v → cf_17 N X (Int32.ofNat j) (Int32.ofNat j') t = some (t, .inl (some (.int v))) := fun v e => by
        by_cases c : serO (S j) = serO (S j')
        · rw [if_pos c] at hc e
          rw [← e]
          have q1 := q1 N X t
          have q3 := q3 N X t
          repeat ((first | unfold cf_17 | unfold cf_17_0 | unfold cf_17_4 | unfold cf_17_7 | unfold cf_17_11 | unfold cf_17_14 | unfold cf_17_23 | unfold cf_17_26 | unfold cf_17_30 | unfold cf_17_31); try simp (disch := omega) only [ev_S, ev_C, ↓reduceIte, Nat.reduceEqDiff, Nat.reduceLeDiff, Nat.reduceAdd, Nat.reduceMul, Nat.reduceSub, reduceCtorEq, l32_0, l32_1, l32_2, l32_3, l32_4, l32_7, q1, q3, h2, h5a, hc])
        · rw [if_neg c] at hc e
          rw [← e]
          have q1 := q1 N X t
          have q3 := q3 N X t
          repeat ((first | unfold cf_17 | unfold cf_17_0 | unfold cf_17_4 | unfold cf_17_7 | unfold cf_17_11 | unfold cf_17_14 | unfold cf_17_23 | unfold cf_17_26 | unfold cf_17_30 | unfold cf_17_31); try simp (disch := omega) only [ev_S, ev_C, ↓reduceIte, Nat.reduceEqDiff, Nat.reduceLeDiff, Nat.reduceAdd, Nat.reduceMul, Nat.reduceSub, reduceCtorEq, l32_0, l32_1, l32_2, l32_3, l32_4, l32_7, q1, q3, h2, h5a, hc])
      have r1 := q2 N s
      have r3 := q4 N s
      have w1 := h7 j
      have w2 := h7 j'
      have hp : ∀ x : Th 4, ¬ ([] : List Int32) = ser 4 x := fun x q => by
        obtain ⟨l, e⟩ := ser_kd 4 x
        rw [e] at q
        cases q
      have hz : ∀ (x : Th 4) (m : Nat) (z : Int32), m < 3 → kdV (vw ⟨4, x⟩) = Int32.ofNat (m + 1) → ¬ [0, z] = ser 4 x := fun x m z hm hk q => by
        rw [show ser 4 x = _ from vw_ser ⟨4, x⟩] at q
        obtain ⟨l, e⟩ := serV_hd (vw ⟨4, x⟩)
        rw [e, hk] at q
        have := ofNat_inj (a := 0) (by omega) (by omega) (List.cons.inj q).1
        omega
      obtain ⟨e1, g1⟩ | ⟨x, z, e1, g0, g1, g2⟩ | ⟨x, m, e1, g1, g2, g3, g4⟩ := slot3 (h6 j hj).2
      · obtain ⟨e1', g1'⟩ | ⟨x', z', e1', g0', g1', g2'⟩ | ⟨x', m', e1', g1', g2', g3', g4'⟩ := slot3 (h6 j' hj').2
        · refine ⟨s, 1, hcl 1 (by rw [e1, e1']; rfl), ?_, mfr.rf⟩
          repeat ((first | unfold mf_82 | unfold mf_82_0 | unfold mf_82_4 | unfold mf_82_7 | unfold mf_82_11 | unfold mf_82_14 | unfold mf_82_16 | unfold mf_82_38 | unfold mf_82_48 | unfold mf_82_64 | unfold mf_82_73 | unfold mf_82_93 | unfold mf_82_97 | unfold mf_82_98 | unfold mf_82_99 | unfold mf_82_106); try simp (disch := omega) only [ev_S, ev_P, ↓reduceIte, Nat.reduceEqDiff, Nat.reduceLeDiff, Nat.reduceAdd, Nat.reduceMul, Nat.reduceSub, reduceCtorEq, l32_0, l32_1, l32_2, l32_3, l32_4, l32_47, l32_2410, l32_166300, r1, r3, g1, g1'])
        · refine ⟨s, 0, hcl 0 (by rw [e1, e1', if_neg]; exact hp x'), ?_, mfr.rf⟩
          repeat ((first | unfold mf_82 | unfold mf_82_0 | unfold mf_82_4 | unfold mf_82_7 | unfold mf_82_11 | unfold mf_82_14 | unfold mf_82_16 | unfold mf_82_38 | unfold mf_82_48 | unfold mf_82_64 | unfold mf_82_73 | unfold mf_82_93 | unfold mf_82_97 | unfold mf_82_98 | unfold mf_82_99 | unfold mf_82_106); try simp (disch := omega) only [ev_S, ev_P, ↓reduceIte, Nat.reduceEqDiff, Nat.reduceLeDiff, Nat.reduceAdd, Nat.reduceMul, Nat.reduceSub, reduceCtorEq, l32_0, l32_1, l32_2, l32_3, l32_4, l32_47, l32_2410, l32_166300, r1, r3, g1, g1'])
        · refine ⟨s, 0, hcl 0 (by rw [e1, e1', if_neg]; exact hp x'), ?_, mfr.rf⟩
          repeat ((first | unfold mf_82 | unfold mf_82_0 | unfold mf_82_4 | unfold mf_82_7 | unfold mf_82_11 | unfold mf_82_14 | unfold mf_82_16 | unfold mf_82_38 | unfold mf_82_48 | unfold mf_82_64 | unfold mf_82_73 | unfold mf_82_93 | unfold mf_82_97 | unfold mf_82_98 | unfold mf_82_99 | unfold mf_82_106); try simp (disch := omega) only [ev_S, ev_P, ↓reduceIte, Nat.reduceEqDiff, Nat.reduceLeDiff, Nat.reduceAdd, Nat.reduceMul, Nat.reduceSub, reduceCtorEq, l32_0, l32_1, l32_2, l32_3, l32_4, l32_47, l32_2410, l32_166300, r1, r3, g1, g1'])
      · obtain ⟨e1', g1'⟩ | ⟨x', z', e1', g0', g1', g2'⟩ | ⟨x', m', e1', g1', g2', g3', g4'⟩ := slot3 (h6 j' hj').2
        · refine ⟨s, 0, hcl 0 (by rw [e1, e1', if_neg]; exact fun q => hp x q.symm), ?_, mfr.rf⟩
          repeat ((first | unfold mf_82 | unfold mf_82_0 | unfold mf_82_4 | unfold mf_82_7 | unfold mf_82_11 | unfold mf_82_14 | unfold mf_82_16 | unfold mf_82_38 | unfold mf_82_48 | unfold mf_82_64 | unfold mf_82_73 | unfold mf_82_93 | unfold mf_82_97 | unfold mf_82_98 | unfold mf_82_99 | unfold mf_82_106); try simp (disch := omega) only [ev_S, ev_P, ↓reduceIte, Nat.reduceEqDiff, Nat.reduceLeDiff, Nat.reduceAdd, Nat.reduceMul, Nat.reduceSub, reduceCtorEq, l32_0, l32_1, l32_2, l32_3, l32_4, l32_47, l32_2410, l32_166300, r1, r3, g1, g1'])
        · by_cases c : z = z'
          · refine ⟨s, 1, hcl 1 (by rw [e1, e1', if_pos]; show ser 4 x = ser 4 x'; rw [g0, g0', c]), ?_, mfr.rf⟩
            repeat ((first | unfold mf_82 | unfold mf_82_0 | unfold mf_82_4 | unfold mf_82_7 | unfold mf_82_11 | unfold mf_82_14 | unfold mf_82_16 | unfold mf_82_38 | unfold mf_82_48 | unfold mf_82_64 | unfold mf_82_73 | unfold mf_82_93 | unfold mf_82_97 | unfold mf_82_98 | unfold mf_82_99 | unfold mf_82_106); try simp (disch := omega) only [ev_S, ev_P, ↓reduceIte, Nat.reduceEqDiff, Nat.reduceLeDiff, Nat.reduceAdd, Nat.reduceMul, Nat.reduceSub, reduceCtorEq, l32_0, l32_1, l32_2, l32_3, l32_4, l32_47, l32_2410, l32_166300, r1, r3, g1, g1', g2, g2', c])
          · refine ⟨s, 0, hcl 0 (by rw [e1, e1', if_neg]; show ¬ ser 4 x = ser 4 x'; rw [g0, g0']; exact fun q => c (List.cons.inj (List.cons.inj q).2).1), ?_, mfr.rf⟩
            repeat ((first | unfold mf_82 | unfold mf_82_0 | unfold mf_82_4 | unfold mf_82_7 | unfold mf_82_11 | unfold mf_82_14 | unfold mf_82_16 | unfold mf_82_38 | unfold mf_82_48 | unfold mf_82_64 | unfold mf_82_73 | unfold mf_82_93 | unfold mf_82_97 | unfold mf_82_98 | unfold mf_82_99 | unfold mf_82_106); try simp (disch := omega) only [ev_S, ev_P, ↓reduceIte, Nat.reduceEqDiff, Nat.reduceLeDiff, Nat.reduceAdd, Nat.reduceMul, Nat.reduceSub, reduceCtorEq, l32_0, l32_1, l32_2, l32_3, l32_4, l32_47, l32_2410, l32_166300, r1, r3, g1, g1', g2, g2', c])
        · refine ⟨s, 0, hcl 0 (by rw [e1, e1', if_neg]; show ¬ ser 4 x = ser 4 x'; rw [g0]; exact hz x' m' z g2' g3'), ?_, mfr.rf⟩
          repeat ((first | unfold mf_82 | unfold mf_82_0 | unfold mf_82_4 | unfold mf_82_7 | unfold mf_82_11 | unfold mf_82_14 | unfold mf_82_16 | unfold mf_82_38 | unfold mf_82_48 | unfold mf_82_64 | unfold mf_82_73 | unfold mf_82_93 | unfold mf_82_97 | unfold mf_82_98 | unfold mf_82_99 | unfold mf_82_106); try simp (disch := omega) only [ev_S, ev_P, ↓reduceIte, Nat.reduceEqDiff, Nat.reduceLeDiff, Nat.reduceAdd, Nat.reduceMul, Nat.reduceSub, reduceCtorEq, l32_0, l32_1, l32_2, l32_3, l32_4, l32_47, l32_2410, l32_166300, r1, r3, g1, g1'])
      · obtain ⟨e1', g1'⟩ | ⟨x', z', e1', g0', g1', g2'⟩ | ⟨x', m', e1', g1', g2', g3', g4'⟩ := slot3 (h6 j' hj').2
        · refine ⟨s, 0, hcl 0 (by rw [e1, e1', if_neg]; exact fun q => hp x q.symm), ?_, mfr.rf⟩
          repeat ((first | unfold mf_82 | unfold mf_82_0 | unfold mf_82_4 | unfold mf_82_7 | unfold mf_82_11 | unfold mf_82_14 | unfold mf_82_16 | unfold mf_82_38 | unfold mf_82_48 | unfold mf_82_64 | unfold mf_82_73 | unfold mf_82_93 | unfold mf_82_97 | unfold mf_82_98 | unfold mf_82_99 | unfold mf_82_106); try simp (disch := omega) only [ev_S, ev_P, ↓reduceIte, Nat.reduceEqDiff, Nat.reduceLeDiff, Nat.reduceAdd, Nat.reduceMul, Nat.reduceSub, reduceCtorEq, l32_0, l32_1, l32_2, l32_3, l32_4, l32_47, l32_2410, l32_166300, r1, r3, g1, g1'])
        · refine ⟨s, 0, hcl 0 (by rw [e1, e1', if_neg]; show ¬ ser 4 x = ser 4 x'; rw [g0']; exact fun q => hz x m z' g2 g3 q.symm), ?_, mfr.rf⟩
          repeat ((first | unfold mf_82 | unfold mf_82_0 | unfold mf_82_4 | unfold mf_82_7 | unfold mf_82_11 | unfold mf_82_14 | unfold mf_82_16 | unfold mf_82_38 | unfold mf_82_48 | unfold mf_82_64 | unfold mf_82_73 | unfold mf_82_93 | unfold mf_82_97 | unfold mf_82_98 | unfold mf_82_99 | unfold mf_82_106); try simp (disch := omega) only [ev_S, ev_P, ↓reduceIte, Nat.reduceEqDiff, Nat.reduceLeDiff, Nat.reduceAdd, Nat.reduceMul, Nat.reduceSub, reduceCtorEq, l32_0, l32_1, l32_2, l32_3, l32_4, l32_47, l32_2410, l32_166300, r1, r3, g1, g1'])
        · have hR : ∀ y, Rk j y → y < 166300 := fun y hy => by have := hy.2; omega
          have hR' : ∀ y, Rk j' y → y < 166300 := fun y hy => by have := hy.2; omega
          obtain ⟨s', es, ef⟩ := r_areSame (N := N) (s := s) (R := Rk j) (R' := Rk j') hN hR hR' g4 g4' (w1 x e1) (w2 x' e1')
          by_cases c : ser 4 x = ser 4 x'
          · refine ⟨s', 1, hcl 1 (by rw [e1, e1']; exact if_pos c), ?_, ef⟩
            rw [if_pos c] at es
            repeat ((first | unfold mf_82 | unfold mf_82_0 | unfold mf_82_4 | unfold mf_82_7 | unfold mf_82_11 | unfold mf_82_14 | unfold mf_82_16 | unfold mf_82_38 | unfold mf_82_48 | unfold mf_82_64 | unfold mf_82_73 | unfold mf_82_93 | unfold mf_82_97 | unfold mf_82_98 | unfold mf_82_99 | unfold mf_82_106); try simp (disch := omega) only [ev_S, ev_P, ↓reduceIte, Nat.reduceEqDiff, Nat.reduceLeDiff, Nat.reduceAdd, Nat.reduceMul, Nat.reduceSub, reduceCtorEq, l32_0, l32_1, l32_2, l32_3, l32_4, l32_47, l32_2410, l32_166300, r1, r3, g1, g1', es])
          · refine ⟨s', 0, hcl 0 (by rw [e1, e1']; exact if_neg c), ?_, ef⟩
            rw [if_neg c] at es
            repeat ((first | unfold mf_82 | unfold mf_82_0 | unfold mf_82_4 | unfold mf_82_7 | unfold mf_82_11 | unfold mf_82_14 | unfold mf_82_16 | unfold mf_82_38 | unfold mf_82_48 | unfold mf_82_64 | unfold mf_82_73 | unfold mf_82_93 | unfold mf_82_97 | unfold mf_82_98 | unfold mf_82_99 | unfold mf_82_106); try simp (disch := omega) only [ev_S, ev_P, ↓reduceIte, Nat.reduceEqDiff, Nat.reduceLeDiff, Nat.reduceAdd, Nat.reduceMul, Nat.reduceSub, reduceCtorEq, l32_0, l32_1, l32_2, l32_3, l32_4, l32_47, l32_2410, l32_166300, r1, r3, g1, g1', es])
    · refine ⟨s, 0, ?_, ?_, mfr.rf⟩
      · have q1 := q1 N X t
        have q3 := q3 N X t
        repeat ((first | unfold cf_17 | unfold cf_17_0 | unfold cf_17_4 | unfold cf_17_7 | unfold cf_17_11 | unfold cf_17_14 | unfold cf_17_23 | unfold cf_17_26 | unfold cf_17_30 | unfold cf_17_31); try simp (disch := omega) only [ev_S, ev_C, ↓reduceIte, Nat.reduceEqDiff, Nat.reduceLeDiff, Nat.reduceAdd, Nat.reduceMul, Nat.reduceSub, reduceCtorEq, l32_0, l32_1, l32_2, l32_3, l32_4, l32_7, q1, q3])
      · have r1 := q2 N s
        have r3 := q4 N s
        repeat ((first | unfold mf_82 | unfold mf_82_0 | unfold mf_82_4 | unfold mf_82_7 | unfold mf_82_11 | unfold mf_82_14 | unfold mf_82_16 | unfold mf_82_38 | unfold mf_82_48 | unfold mf_82_64 | unfold mf_82_73 | unfold mf_82_93 | unfold mf_82_97 | unfold mf_82_98 | unfold mf_82_99 | unfold mf_82_106); try simp (disch := omega) only [ev_S, ev_P, ↓reduceIte, Nat.reduceEqDiff, Nat.reduceLeDiff, Nat.reduceAdd, Nat.reduceMul, Nat.reduceSub, reduceCtorEq, l32_0, l32_1, l32_2, l32_3, l32_4, l32_47, l32_2410, l32_166300, r1, r3])
  · refine ⟨s, 0, ?_, ?_, mfr.rf⟩
    · have q1 := q1 N X t
      repeat ((first | unfold cf_17 | unfold cf_17_0 | unfold cf_17_4 | unfold cf_17_7 | unfold cf_17_11 | unfold cf_17_14 | unfold cf_17_23 | unfold cf_17_26 | unfold cf_17_30 | unfold cf_17_31); try simp (disch := omega) only [ev_S, ev_C, ↓reduceIte, Nat.reduceEqDiff, Nat.reduceLeDiff, Nat.reduceAdd, Nat.reduceMul, Nat.reduceSub, reduceCtorEq, l32_0, l32_1, l32_2, l32_3, l32_4, l32_7, q1])
    · have r1 := q2 N s
      repeat ((first | unfold mf_82 | unfold mf_82_0 | unfold mf_82_4 | unfold mf_82_7 | unfold mf_82_11 | unfold mf_82_14 | unfold mf_82_16 | unfold mf_82_38 | unfold mf_82_48 | unfold mf_82_64 | unfold mf_82_73 | unfold mf_82_93 | unfold mf_82_97 | unfold mf_82_98 | unfold mf_82_99 | unfold mf_82_106); try simp (disch := omega) only [ev_S, ev_P, ↓reduceIte, Nat.reduceEqDiff, Nat.reduceLeDiff, Nat.reduceAdd, Nat.reduceMul, Nat.reduceSub, reduceCtorEq, l32_0, l32_1, l32_2, l32_3, l32_4, l32_47, l32_2410, l32_166300, r1])
end SAC
end
-- ### 67.pure.lean.txt
section
/-! ===== PURE: the class's THINGS: a long, kind above, INT or address below ===== -/
def tg (k a : Int32) : Int64 := ((Int32.toInt64 k) <<< (Int32.toInt64 32 &&& 63)) ||| ((Int32.toInt64 a) &&& 4294967295)
theorem tg_bv (k a : Int32) : (tg k a).toBitVec = ((k.toBitVec.signExtend 64) <<< 32) ||| ((a.toBitVec.signExtend 64) &&& 4294967295#64) := by
  unfold tg
  rw [show (Int32.toInt64 32 &&& 63) = (32 : Int64) from rfl, Int64.toBitVec_or, Int64.toBitVec_and, Int64.toBitVec_shiftLeft, Int32.toBitVec_toInt64, Int32.toBitVec_toInt64]
  rfl
theorem msk : ∀ i : Fin 32, (4294967295#64).getLsbD (32 + i.1) = false ∧ (4294967295#64).getLsbD i.1 = true := by decide
theorem tg_sh {k a : Int32} : tg k a >>> (Int32.toInt64 32 &&& 63) = Int32.toInt64 k := by
  apply Int64.toBitVec_inj.mp
  rw [show (Int32.toInt64 32 &&& 63) = (32 : Int64) from rfl, Int64.toBitVec_shiftRight, tg_bv, show ((32 : Int64).toBitVec.smod 64) = 32#64 from rfl, Int32.toBitVec_toInt64]
  apply BitVec.eq_of_getLsbD_eq
  intro i hi
  by_cases c : i < 32
  · have h := (msk ⟨i, c⟩).1
    dsimp only at h
    simp only [BitVec.sshiftRight', BitVec.getLsbD_sshiftRight, BitVec.getLsbD_or, BitVec.getLsbD_and, BitVec.getLsbD_shiftLeft, BitVec.getLsbD_signExtend, hi, c, h, show 32 + i < 64 by omega, show ¬ 64 ≤ i by omega, show ¬ 32 + i < 32 by omega, show 32 + i - 32 = i by omega, show i < 64 by omega, BitVec.toNat_ofNat, Nat.reducePow, Nat.reduceMod, decide_true, decide_false, Bool.true_and, Bool.not_false, Bool.and_false, Bool.or_false, if_true, if_false]
  · have h31 : (4294967295#64).getLsbD 63 = false := by decide
    simp only [BitVec.sshiftRight', BitVec.getLsbD_sshiftRight, BitVec.msb_eq_getLsbD_last, BitVec.getLsbD_or, BitVec.getLsbD_and, BitVec.getLsbD_shiftLeft, BitVec.getLsbD_signExtend, hi, c, h31, show ¬ 32 + i < 64 by omega, show ¬ 64 ≤ i by omega, BitVec.toNat_ofNat, Nat.reducePow, Nat.reduceMod, Nat.reduceSub, Nat.reduceLT, decide_true, decide_false, Bool.true_and, Bool.not_false, Bool.and_false, Bool.or_false, if_true, if_false]
theorem i64_32 (x : Int32) : Int64.toInt32 (Int32.toInt64 x) = x := Int32.toInt32_toInt64 x
theorem tg_kind (k a : Int32) : Int64.toInt32 (tg k a >>> (Int32.toInt64 32 &&& 63)) = k := by rw [tg_sh, i64_32]
theorem tg_low (k a : Int32) : Int64.toInt32 (tg k a) = a := by
  apply Int32.toBitVec_inj.mp
  rw [Int64.toBitVec_toInt32, tg_bv]
  apply BitVec.eq_of_getLsbD_eq
  intro i hi
  have h := (msk ⟨i, hi⟩).2
  dsimp only at h
  simp only [BitVec.getLsbD_or, BitVec.getLsbD_and, BitVec.getLsbD_shiftLeft, BitVec.getLsbD_signExtend, hi, h, show i < 64 by omega, decide_true, decide_false, Bool.true_and, Bool.not_true, Bool.false_and, Bool.and_true, Bool.and_false, Bool.false_or, if_true, if_false]
theorem tg_inj {k a k' a' : Int32} (h : tg k a = tg k' a') : k = k' ∧ a = a' := ⟨by rw [← tg_kind k a, h, tg_kind], by rw [← tg_low k a, h, tg_low]⟩

theorem i64_inj {x y : Int32} (h : Int32.toInt64 x = Int32.toInt64 y) : x = y := by rw [← i64_32 x, h, i64_32]
/-- (as the code has them) -/
theorem tg_k' {k a : Int32} : Int64.toInt32 (tg k a >>> (Int32.toInt64 (Int32.ofNat 32) &&& 63)) = k := tg_kind k a
theorem tg_s' {k a : Int32} : tg k a >>> (Int32.toInt64 (Int32.ofNat 32) &&& 63) = Int32.toInt64 k := tg_sh
theorem lg_0 {k : Int32} : (lg_cmp (Int32.toInt64 k) 0 = Int32.ofNat 0) = (k = Int32.ofNat 0) := by
  apply propext
  constructor
  · intro h
    unfold lg_cmp at h
    by_cases a : Int32.toInt64 k > 0
    · rw [if_pos a] at h
      exact absurd h (by decide)
    · rw [if_neg a] at h
      by_cases b : Int32.toInt64 k = 0
      · exact i64_inj (b.trans rfl)
      · rw [if_neg b] at h
        exact absurd h (by decide)
  · intro h
    rw [h]
    rfl
theorem lg_3 {k : Int32} : (lg_cmp (Int32.toInt64 k) 3 = Int32.ofNat 0) = (k = Int32.ofNat 3) := by
  apply propext
  constructor
  · intro h
    unfold lg_cmp at h
    by_cases a : Int32.toInt64 k > 3
    · rw [if_pos a] at h
      exact absurd h (by decide)
    · rw [if_neg a] at h
      by_cases b : Int32.toInt64 k = 3
      · exact i64_inj (b.trans rfl)
      · rw [if_neg b] at h
        exact absurd h (by decide)
  · intro h
    rw [h]
    rfl
def cRow (g : Nat → Int64) (u a : Nat) (r : List Int32) : Prop := a + 1 + r.length ≤ u ∧ g a = Int32.toInt64 (Int32.ofNat r.length) ∧ ∀ i (hi : i < r.length), g (a + 1 + i) = Int32.toInt64 r[i]
def cTab (g : Nat → Int64) (u a : Nat) (q : List (List Int32)) : Prop := a + 2 + q.length ≤ u ∧ g a = Int32.toInt64 (Int32.ofNat q.length) ∧ g (a + 1) = Int32.toInt64 (Int32.ofNat (q.map List.length).sum) ∧ ∀ i (hi : i < q.length), ∃ b : Nat, g (a + 2 + i) = Int32.toInt64 (Int32.ofNat b) ∧ cRow g u b q[i]
def cPl (g : Nat → Int64) (u : Nat) (v : Int64) : Pl → Prop
  | .inl z => v = tg 0 z
  | .inr (.inl r) => ∃ a : Nat, v = tg 1 (Int32.ofNat a) ∧ cRow g u a r
  | .inr (.inr q) => ∃ a : Nat, v = tg 2 (Int32.ofNat a) ∧ cTab g u a q
def cTh : (n : Nat) → (Nat → Int64) → Nat → Int64 → Th n → Prop
  | 0, g, u, v, p => cPl g u v p
  | n + 1, g, u, v, x => match (show Pl ⊕ List (Th n) from x) with
    | .inl p => cPl g u v p
    | .inr l => ∃ a : Nat, v = tg 3 (Int32.ofNat a) ∧ a + 3 + l.length ≤ u ∧ g a = Int32.toInt64 (Int32.ofNat l.length) ∧ g (a + 1) = Int32.toInt64 (Int32.ofNat (1 + (l.map (bulk n)).sum)) ∧ g (a + 2) = Int32.toInt64 (Int32.ofNat (1 + mxL (l.map (dT n)))) ∧ ∀ i (hi : i < l.length), cTh n g u (g (a + 3 + i)) l[i]
def cN (g : Nat → Int64) (u : Nat) (v : Int64) (x : Nod) : Prop := cTh x.1 g u v x.2
def cV (g : Nat → Int64) (u : Nat) (v : Int64) : Vw → Prop
  | .inl z => v = tg 0 z
  | .inr (.inl r) => ∃ a : Nat, v = tg 1 (Int32.ofNat a) ∧ cRow g u a r
  | .inr (.inr (.inl q)) => ∃ a : Nat, v = tg 2 (Int32.ofNat a) ∧ cTab g u a q
  | .inr (.inr (.inr ⟨n, l⟩)) => ∃ a : Nat, v = tg 3 (Int32.ofNat a) ∧ a + 3 + l.length ≤ u ∧ g a = Int32.toInt64 (Int32.ofNat l.length) ∧ g (a + 1) = Int32.toInt64 (Int32.ofNat (1 + (l.map (bulk n)).sum)) ∧ g (a + 2) = Int32.toInt64 (Int32.ofNat (1 + mxL (l.map (dT n)))) ∧ ∀ i (hi : i < l.length), cN g u (g (a + 3 + i)) ⟨n, l[i]⟩
theorem cN_iff {g : Nat → Int64} {u : Nat} {v : Int64} : ∀ {x : Nod}, cN g u v x ↔ cV g u v (vw x)
  | ⟨0, p⟩ => by
    obtain z | r | q := p <;> exact Iff.rfl
  | ⟨n + 1, x⟩ => by
    obtain p | l := x
    · obtain z | r | q := p <;> exact Iff.rfl
    · exact Iff.rfl
section CHM
variable {g g' : Nat → Int64} {u u' : Nat}
theorem cRow.mono (hg : ∀ y, y < u → g' y = g y) (hu : u ≤ u') {a : Nat} {r : List Int32} (h : cRow g u a r) : cRow g' u' a r := by
  obtain ⟨h1, h2, h3⟩ := h
  exact ⟨by omega, by rw [hg _ (by omega)]; exact h2, fun i hi => by rw [hg _ (by omega)]; exact h3 i hi⟩
theorem cTab.mono (hg : ∀ y, y < u → g' y = g y) (hu : u ≤ u') {a : Nat} {q : List (List Int32)} (h : cTab g u a q) : cTab g' u' a q := by
  obtain ⟨h1, h2, h3, h4⟩ := h
  refine ⟨by omega, by rw [hg _ (by omega)]; exact h2, by rw [hg _ (by omega)]; exact h3, fun i hi => ?_⟩
  obtain ⟨b, b1, b2⟩ := h4 i hi
  exact ⟨b, by rw [hg _ (by omega)]; exact b1, b2.mono hg hu⟩
theorem cPl.mono (hg : ∀ y, y < u → g' y = g y) (hu : u ≤ u') {v : Int64} {p : Pl} (h : cPl g u v p) : cPl g' u' v p := by
  obtain z | r | q := p
  · exact h
  · obtain ⟨a, h1, h2⟩ := h
    exact ⟨a, h1, h2.mono hg hu⟩
  · obtain ⟨a, h1, h2⟩ := h
    exact ⟨a, h1, h2.mono hg hu⟩
theorem cTh.mono (hg : ∀ y, y < u → g' y = g y) (hu : u ≤ u') : ∀ (n : Nat) {v : Int64} {x : Th n}, cTh n g u v x → cTh n g' u' v x
  | 0, v, p, h => cPl.mono hg hu h
  | n + 1, v, x, h => by
    obtain p | l := x
    · exact cPl.mono (p := p) hg hu h
    · obtain ⟨a, h1, h2, h3, h4, h5, h6⟩ := h
      exact ⟨a, h1, by omega, by rw [hg _ (by omega)]; exact h3, by rw [hg _ (by omega)]; exact h4, by rw [hg _ (by omega)]; exact h5, fun i hi => by rw [hg _ (by omega)]; exact cTh.mono hg hu n (h6 i hi)⟩
theorem cN.mono (hg : ∀ y, y < u → g' y = g y) (hu : u ≤ u') {v : Int64} {x : Nod} (h : cN g u v x) : cN g' u' v x := cTh.mono hg hu x.1 h
theorem cs_c {m : Nat} {x : Nod} (h : dN x ≤ m) : ∀ {v : Int64}, cN g u v x → cN g u v ⟨m, cs m x⟩ := by
  refine (cs_ind (fun x y => bulkN x = bulkN y ∧ dN x = dN y ∧ ∀ v, cN g u v x → cN g u v y) (fun x y k e => ⟨by rw [vw_bulk x, vw_bulk y, e], by rw [dN_0 k, dN_0 (x := y) (by rw [e]; exact k)], fun v w => ?_⟩) (fun n m l l' x y hl hi e e' => ?_) m x h).2.2 _
  · rw [cN_iff] at w ⊢
    rw [e]
    exact w
  · have hb := map_eq (f := bulk n) (g := bulk m) hl (fun i a b => (hi i a b).1)
    have hd := map_eq (f := dT n) (g := dT m) hl (fun i a b => (hi i a b).2.1)
    refine ⟨?_, ?_, fun v w => ?_⟩
    · rw [vw_bulk x, vw_bulk y, e, e']
      show 1 + (l.map (bulk n)).sum = 1 + (l'.map (bulk m)).sum
      rw [hb]
    · rw [dN_P e, dN_P e', hd]
    · rw [cN_iff] at w ⊢
      rw [e] at w
      rw [e']
      obtain ⟨a, h1, h2, h3, h4, h5, h6⟩ := w
      exact ⟨a, h1, by omega, by rw [hl]; exact h3, by rw [← hb]; exact h4, by rw [← hd]; exact h5, fun i hi' => (hi i (by omega) hi').2.2 _ (h6 i (by omega))⟩
end CHM
/-- how often an array has been made longer, and what that took -/
def lgc (L : Nat) : Nat := Nat.min 19 (Nat.log2 L)
def pot (t : cS) : Nat := lgc (kB t 43).1 + lgc (kB t 44).1 + (kA t 46).1 / 64 + lgc (kB t 52).1 + lgc (kA t 55).1 + lgc (kA t 56).1 + lgc (kA t 57).1
def poq (t : cS) : Nat := 2 * (kB t 43).1 + 2 * (kB t 44).1 + 17 * (kA t 46).1 + 2 * (kB t 52).1 + 2 * (kA t 55).1 + 2 * (kA t 56).1 + 2 * (kA t 57).1
/-- room is left -/
def rmK (t : cS) : Prop := kN t + 200 < zz_out + pot t ∧ (kA t 46).1 ≤ 600
theorem lgc_le (L : Nat) : lgc L ≤ 19 := Nat.min_le_left _ _
theorem rmK.k {t : cS} (h : rmK t) : kN t + 70 < zz_out := by
  obtain ⟨h1, h2⟩ := h
  unfold pot at h1
  have a1 := lgc_le (kB t 43).1
  have a2 := lgc_le (kB t 44).1
  have a3 := lgc_le (kB t 52).1
  have a4 := lgc_le (kA t 55).1
  have a5 := lgc_le (kA t 56).1
  have a6 := lgc_le (kA t 57).1
  omega
/-- the class's heap: u cells used, w parts gathered -/
def cHp (t : cS) (u w : Nat) : Prop := kI t 42 1 = Int32.ofNat u ∧ kI t 42 3 = Int32.ofNat w ∧ u ≤ (kB t 43).1 ∧ w ≤ (kB t 44).1 ∧ 1 ≤ (kB t 44).1 ∧ 1 ≤ (kB t 43).1 ∧ (kB t 43).1 < 350000 ∧ (kB t 44).1 < 130000 ∧ rmK t
/-- what changes on the heap leave, and the room they take -/
def hfr (t t' : cS) : Prop := (∀ k f, ¬ (k = 42 ∧ (f = 1 ∨ f = 3)) → kI t' k f = kI t k f) ∧ kL t' = kL t ∧ kP t' = kP t ∧ (∀ k, k ≠ 43 → k ≠ 44 → k ≠ 111 → kA t' k = kA t k ∧ kB t' k = kB t k ∧ kD t' k = kD t k) ∧ kM t' = kM t ∧ kH t' = kH t ∧ kN t ≤ kN t' ∧ kN t' + pot t ≤ kN t + pot t' ∧ kQ t' + poq t ≤ kQ t + poq t'
theorem hfr.rf {t : cS} : hfr t t := ⟨fun _ _ _ => rfl, rfl, rfl, fun _ _ _ _ => ⟨rfl, rfl, rfl⟩, rfl, rfl, Nat.le_refl _, Nat.le_refl _, Nat.le_refl _⟩
theorem hfr.tr {t t1 t2 : cS} (h : hfr t t1) (g : hfr t1 t2) : hfr t t2 := by
  obtain ⟨a1, a2, a3, a4, a5, a6, a8, a9, a10⟩ := h
  obtain ⟨b1, b2, b3, b4, b5, b6, b8, b9, b10⟩ := g
  exact ⟨fun k f r => (b1 k f r).trans (a1 k f r), b2.trans a2, b3.trans a3, fun k r1 r2 r3 => ⟨(b4 k r1 r2 r3).1.trans (a4 k r1 r2 r3).1, (b4 k r1 r2 r3).2.1.trans (a4 k r1 r2 r3).2.1, (b4 k r1 r2 r3).2.2.trans (a4 k r1 r2 r3).2.2⟩, b5.trans a5, b6.trans a6, by omega, by omega, by omega⟩
end
-- ### 68.pure.lean.txt
section
/-! ===== PURE: the class's heap, read and gathered ===== -/
theorem lg2 {a b : Nat} (ha : 1 ≤ a) (h : 2 * a ≤ b) : Nat.log2 a + 1 ≤ Nat.log2 b := by
  have h1 : 2 ^ Nat.log2 a ≤ a := Nat.log2_self_le (by omega)
  exact (Nat.le_log2 (by omega)).mpr (by rw [Nat.pow_succ]; omega)
theorem lg20 {a : Nat} (h : a < 1000000) : Nat.log2 a ≤ 19 := by
  by_cases e : a = 0
  · rw [e]
    decide
  · have h1 : 2 ^ Nat.log2 a ≤ a := Nat.log2_self_le e
    by_cases c : Nat.log2 a ≤ 19
    · exact c
    · have : 2 ^ 20 ≤ 2 ^ Nat.log2 a := Nat.pow_le_pow_right (by decide) (by omega)
      have e2 : (2 : Nat) ^ 20 = 1048576 := by decide
      omega
theorem updL_s {f : Nat → Int64} {i : Nat} {v : Int64} : vp_updL f i v i = v := if_pos rfl
theorem updL_n {f : Nat → Int64} {i j : Nat} {v : Int64} (h : ¬ j = i) : vp_updL f i v j = f j := if_neg h
theorem kcp_lt {α : Type} {z : α} {f : Nat → α} {n i : Nat} (h : i < n) : kcp z f n i = f i := by
  unfold kcp va_cpy
  simp only [Nat.zero_le, Nat.zero_add, Nat.sub_zero, h, and_self, ↓reduceIte]
theorem lgc2 {a b : Nat} (ha : 1 ≤ a) (h : 2 * a ≤ b) (hb : b < 1000000) : lgc a + 1 ≤ lgc b := by
  have h1 := lg2 ha h
  have h2 := lg20 hb
  unfold lgc
  rw [show Nat.min 19 (Nat.log2 b) = Nat.log2 b from Nat.min_eq_right h2]
  have : Nat.min 19 (Nat.log2 a) ≤ Nat.log2 a := Nat.min_le_right _ _
  omega
section CHR
variable {N : Nat} {X : Nat → Option zz_C} {t : cS} {u w : Nat} {v : Int64} {x : Nod}
abbrev cel (t : cS) : Nat → Int64 := (kB t 43).2
abbrev prt (t : cS) : Nat → Int64 := (kB t 44).2
theorem c_thing {k a : Int32} : cf_253 N X k a t = some (t, .inl (some (.long (tg k a)))) := rfl
theorem c_kindOf {k a : Int32} : cf_255 N X (tg k a) t = some (t, .inl (some (.int k))) := by
  repeat ((first | unfold cf_255 | unfold cf_255_0); try simp (disch := omega) only [ev_S, ev_C, ↓reduceIte, Nat.reduceEqDiff, Nat.reduceLeDiff, Nat.reduceAdd, Nat.reduceMul, Nat.reduceSub, reduceCtorEq, l32_0, l32_1, l32_2, l32_3, l32_4, l32_32, l32_63, tg_k'])
theorem c_lowOf {k a : Int32} : cf_256 N X (tg k a) t = some (t, .inl (some (.int a))) := by
  repeat ((first | unfold cf_256 | unfold cf_256_0); try simp (disch := omega) only [ev_S, ev_C, ↓reduceIte, Nat.reduceEqDiff, Nat.reduceLeDiff, Nat.reduceAdd, Nat.reduceMul, Nat.reduceSub, reduceCtorEq, l32_0, l32_1, l32_2, l32_3, l32_4, tg_low])
theorem c_gathered (h : cHp t u w) : cf_122 N X t = some (t, .inl (some (.int (Int32.ofNat w)))) := by
  have e := h.2.1
  repeat ((first | unfold cf_122 | unfold cf_122_0); try simp (disch := omega) only [ev_S, ev_C, ↓reduceIte, Nat.reduceEqDiff, Nat.reduceLeDiff, Nat.reduceAdd, Nat.reduceMul, Nat.reduceSub, reduceCtorEq, l32_0, l32_1, l32_2, l32_3, l32_4, l32_42, e])
/-- its kind stands above -/
theorem cV.tg {v' : Vw} (h : cV (cel t) u v v') : ∃ a : Int32, v = tg (kdV v') a := by
  obtain z | r | q | ⟨n, l⟩ := v'
  · exact ⟨z, h⟩
  · obtain ⟨a, h, -⟩ := h
    exact ⟨_, h⟩
  · obtain ⟨a, h, -⟩ := h
    exact ⟨_, h⟩
  · obtain ⟨a, h, -⟩ := h
    exact ⟨_, h⟩
theorem c_kind (h : cN (cel t) u v x) : cf_255 N X v t = some (t, .inl (some (.int (kdV (vw x))))) := by
  obtain ⟨a, e⟩ := (cN_iff.mp h).tg
  rw [e, c_kindOf]
theorem c_size (hh : cHp t u w) (h : cN (cel t) u v x) : cf_128 N X v t = some (t, .inl (some (.int (Int32.ofNat (szV (vw x)))))) := by
  obtain ⟨h1, h2, h3, h4, h5, h6, h7, h8, h9⟩ := hh
  have h := cN_iff.mp h
  generalize vw x = V at h
  obtain z | r | q | ⟨n, l⟩ := V
  · have h : v = tg 0 z := h
    rw [h]
    repeat ((first | unfold cf_128 | unfold cf_128_0 | unfold cf_128_15 | unfold cf_128_20 | unfold cf_128_25 | unfold cf_128_34 | unfold cf_128_38 | unfold cf_128_46); try simp (disch := omega) only [ev_S, ev_C, ↓reduceIte, Nat.reduceEqDiff, Nat.reduceLeDiff, Nat.reduceAdd, Nat.reduceMul, Nat.reduceSub, reduceCtorEq, l32_0, l32_1, l32_2, l32_3, l32_4, l32_32, l32_42, l32_43, l32_63, tg_k', tg_low, szV])
  · obtain ⟨a, h, g1, g2, g3⟩ := h
    rw [h]
    have g2 : (kB t 43).2 a = _ := g2
    repeat ((first | unfold cf_128 | unfold cf_128_0 | unfold cf_128_15 | unfold cf_128_20 | unfold cf_128_25 | unfold cf_128_34 | unfold cf_128_38 | unfold cf_128_46); try simp (disch := omega) only [ev_S, ev_C, ↓reduceIte, Nat.reduceEqDiff, Nat.reduceLeDiff, Nat.reduceAdd, Nat.reduceMul, Nat.reduceSub, reduceCtorEq, l32_0, l32_1, l32_2, l32_3, l32_4, l32_32, l32_42, l32_43, l32_63, tg_k', tg_low, szV, h1, g2, i64_32])
  · obtain ⟨a, h, g1, g2, g3⟩ := h
    rw [h]
    have g2 : (kB t 43).2 a = _ := g2
    repeat ((first | unfold cf_128 | unfold cf_128_0 | unfold cf_128_15 | unfold cf_128_20 | unfold cf_128_25 | unfold cf_128_34 | unfold cf_128_38 | unfold cf_128_46); try simp (disch := omega) only [ev_S, ev_C, ↓reduceIte, Nat.reduceEqDiff, Nat.reduceLeDiff, Nat.reduceAdd, Nat.reduceMul, Nat.reduceSub, reduceCtorEq, l32_0, l32_1, l32_2, l32_3, l32_4, l32_32, l32_42, l32_43, l32_63, tg_k', tg_low, szV, h1, g2, i64_32])
  · obtain ⟨a, h, g1, g2, g3⟩ := h
    rw [h]
    have g2 : (kB t 43).2 a = _ := g2
    repeat ((first | unfold cf_128 | unfold cf_128_0 | unfold cf_128_15 | unfold cf_128_20 | unfold cf_128_25 | unfold cf_128_34 | unfold cf_128_38 | unfold cf_128_46); try simp (disch := omega) only [ev_S, ev_C, ↓reduceIte, Nat.reduceEqDiff, Nat.reduceLeDiff, Nat.reduceAdd, Nat.reduceMul, Nat.reduceSub, reduceCtorEq, l32_0, l32_1, l32_2, l32_3, l32_4, l32_32, l32_42, l32_43, l32_63, tg_k', tg_low, szV, h1, g2, i64_32])
/-- the part at i: of a ROW, of a TABLE, of a PACK -/
theorem c_partR (hh : cHp t u w) {r : List Int32} {i : Nat} (h : cV (cel t) u v (vR r)) (hi : i < r.length) : cf_129 N X v (Int32.ofNat i) t = some (t, .inl (some (.long (tg 0 r[i])))) := by
  obtain ⟨h1, h2, h3, h4, h5, h6, h7, h8, h9⟩ := hh
  obtain ⟨a, h, g1, g2, g3⟩ := h
  rw [h]
  have g3 : (kB t 43).2 (a + 1 + i) = _ := g3 i hi
  repeat ((first | unfold cf_129 | unfold cf_129_0 | unfold cf_129_22 | unfold cf_129_28 | unfold cf_129_33 | unfold cf_129_42 | unfold cf_129_44 | unfold cf_129_50 | unfold cf_129_60 | unfold cf_129_75); try simp (disch := omega) only [ev_S, ev_C, ↓reduceIte, Nat.reduceEqDiff, Nat.reduceLeDiff, Nat.reduceAdd, Nat.reduceMul, Nat.reduceSub, reduceCtorEq, l32_0, l32_1, l32_2, l32_3, l32_4, l32_32, l32_42, l32_43, l32_63, tg_k', tg_low, h1, g3, i64_32, c_thing])
theorem c_partT (hh : cHp t u w) {q : List (List Int32)} {i : Nat} (h : cV (cel t) u v (vT q)) (hi : i < q.length) : ∃ v', cf_129 N X v (Int32.ofNat i) t = some (t, .inl (some (.long v'))) ∧ cN (cel t) u v' (nR q[i]) := by
  obtain ⟨h1, h2, h3, h4, h5, h6, h7, h8, h9⟩ := hh
  obtain ⟨a, h, g1, g2, g3, g4⟩ := h
  rw [h]
  obtain ⟨b, b1, b2⟩ := g4 i hi
  have b1 : (kB t 43).2 (a + 2 + i) = _ := b1
  refine ⟨tg 1 (Int32.ofNat b), ?_, ⟨b, rfl, b2⟩⟩
  repeat ((first | unfold cf_129 | unfold cf_129_0 | unfold cf_129_22 | unfold cf_129_28 | unfold cf_129_33 | unfold cf_129_42 | unfold cf_129_44 | unfold cf_129_50 | unfold cf_129_60 | unfold cf_129_75); try simp (disch := omega) only [ev_S, ev_C, ↓reduceIte, Nat.reduceEqDiff, Nat.reduceLeDiff, Nat.reduceAdd, Nat.reduceMul, Nat.reduceSub, reduceCtorEq, l32_0, l32_1, l32_2, l32_3, l32_4, l32_32, l32_42, l32_43, l32_63, tg_k', tg_low, h1, b1, i64_32, c_thing])
theorem c_partP (hh : cHp t u w) {n : Nat} {l : List (Th n)} {i : Nat} (h : cV (cel t) u v (vP n l)) (hi : i < l.length) : ∃ v', cf_129 N X v (Int32.ofNat i) t = some (t, .inl (some (.long v'))) ∧ cN (cel t) u v' ⟨n, l[i]⟩ := by
  obtain ⟨h1, h2, h3, h4, h5, h6, h7, h8, h9⟩ := hh
  obtain ⟨a, h, g1, g2, g3, g4, g5⟩ := h
  rw [h]
  refine ⟨(kB t 43).2 (a + 3 + i), ?_, g5 i hi⟩
  repeat ((first | unfold cf_129 | unfold cf_129_0 | unfold cf_129_22 | unfold cf_129_28 | unfold cf_129_33 | unfold cf_129_42 | unfold cf_129_44 | unfold cf_129_50 | unfold cf_129_60 | unfold cf_129_75); try simp (disch := omega) only [ev_S, ev_C, ↓reduceIte, Nat.reduceEqDiff, Nat.reduceLeDiff, Nat.reduceAdd, Nat.reduceMul, Nat.reduceSub, reduceCtorEq, l32_0, l32_1, l32_2, l32_3, l32_4, l32_32, l32_42, l32_43, l32_63, tg_k', tg_low, h1])
theorem c_intAt (hh : cHp t u w) {r : List Int32} {i : Nat} (h : cV (cel t) u v (vR r)) (hi : i < r.length) : cf_130 N X v (Int32.ofNat i) t = some (t, .inl (some (.int r[i]))) := by
  obtain ⟨h1, h2, h3, h4, h5, h6, h7, h8, h9⟩ := hh
  obtain ⟨a, h, g1, g2, g3⟩ := h
  rw [h]
  have g3 : (kB t 43).2 (a + 1 + i) = _ := g3 i hi
  repeat ((first | unfold cf_130 | unfold cf_130_0 | unfold cf_130_9 | unfold cf_130_12 | unfold cf_130_25 | unfold cf_130_34 | unfold cf_130_45 | unfold cf_130_46); try simp (disch := omega) only [ev_S, ev_C, ↓reduceIte, Nat.reduceEqDiff, Nat.reduceLeDiff, Nat.reduceAdd, Nat.reduceMul, Nat.reduceSub, reduceCtorEq, l32_0, l32_1, l32_2, l32_3, l32_4, l32_32, l32_42, l32_43, l32_63, tg_s', lg_0, tg_low, h1, g3, i64_32, c_thing])
theorem c_intAt0 {z : Int32} {i : Int32} : cf_130 N X (tg 0 z) i t = some (t, .inl (some (.int z))) := by
  repeat ((first | unfold cf_130 | unfold cf_130_0 | unfold cf_130_9 | unfold cf_130_12 | unfold cf_130_25 | unfold cf_130_34 | unfold cf_130_45 | unfold cf_130_46); try simp (disch := omega) only [ev_S, ev_C, ↓reduceIte, Nat.reduceEqDiff, Nat.reduceLeDiff, Nat.reduceAdd, Nat.reduceMul, Nat.reduceSub, reduceCtorEq, l32_0, l32_1, l32_2, l32_3, l32_4, l32_32, l32_42, l32_43, l32_63, tg_s', lg_0, tg_low])
theorem c_bulk (hh : cHp t u w) (h : cN (cel t) u v x) : cf_134 N X v t = some (t, .inl (some (.int (Int32.ofNat (bulkN x))))) := by
  obtain ⟨h1, h2, h3, h4, h5, h6, h7, h8, h9⟩ := hh
  have h := cN_iff.mp h
  rw [vw_bulk]
  generalize vw x = V at h
  obtain z | r | q | ⟨n, l⟩ := V
  · have h : v = tg 0 z := h
    rw [h]
    repeat ((first | unfold cf_134 | unfold cf_134_0 | unfold cf_134_15 | unfold cf_134_20 | unfold cf_134_25 | unfold cf_134_34 | unfold cf_134_36 | unfold cf_134_41 | unfold cf_134_52 | unfold cf_134_56 | unfold cf_134_66 | unfold cf_134_73 | unfold cf_134_78 | unfold cf_134_91); try simp (disch := omega) only [ev_S, ev_C, ↓reduceIte, Nat.reduceEqDiff, Nat.reduceLeDiff, Nat.reduceAdd, Nat.reduceMul, Nat.reduceSub, reduceCtorEq, l32_0, l32_1, l32_2, l32_3, l32_4, l32_32, l32_42, l32_43, l32_63, tg_k', tg_low, bulkV])
  · obtain ⟨a, h, g1, g2, g3⟩ := h
    rw [h]
    have g2 : (kB t 43).2 a = _ := g2
    repeat ((first | unfold cf_134 | unfold cf_134_0 | unfold cf_134_15 | unfold cf_134_20 | unfold cf_134_25 | unfold cf_134_34 | unfold cf_134_36 | unfold cf_134_41 | unfold cf_134_52 | unfold cf_134_56 | unfold cf_134_66 | unfold cf_134_73 | unfold cf_134_78 | unfold cf_134_91); try simp (disch := omega) only [ev_S, ev_C, ↓reduceIte, Nat.reduceEqDiff, Nat.reduceLeDiff, Nat.reduceAdd, Nat.reduceMul, Nat.reduceSub, reduceCtorEq, l32_0, l32_1, l32_2, l32_3, l32_4, l32_32, l32_42, l32_43, l32_63, tg_k', tg_low, bulkV, h1, g2, i64_32])
    rfl
  · obtain ⟨a, h, g1, g2, g3, g4⟩ := h
    rw [h]
    have g2 : (kB t 43).2 a = _ := g2
    have g3 : (kB t 43).2 (a + 1) = _ := g3
    repeat ((first | unfold cf_134 | unfold cf_134_0 | unfold cf_134_15 | unfold cf_134_20 | unfold cf_134_25 | unfold cf_134_34 | unfold cf_134_36 | unfold cf_134_41 | unfold cf_134_52 | unfold cf_134_56 | unfold cf_134_66 | unfold cf_134_73 | unfold cf_134_78 | unfold cf_134_91); try simp (disch := omega) only [ev_S, ev_C, ↓reduceIte, Nat.reduceEqDiff, Nat.reduceLeDiff, Nat.reduceAdd, Nat.reduceMul, Nat.reduceSub, reduceCtorEq, l32_0, l32_1, l32_2, l32_3, l32_4, l32_32, l32_42, l32_43, l32_63, tg_k', tg_low, bulkV, h1, g2, g3, i64_32])
    rw [sum_add, sum_c]
    have e : 1 + q.length + (q.map List.length).sum = 1 + (1 * q.length + (q.map List.length).sum) := by omega
    rw [e]
  · obtain ⟨a, h, g1, g2, g3, g4⟩ := h
    rw [h]
    have g2 : (kB t 43).2 a = _ := g2
    have g3 : (kB t 43).2 (a + 1) = _ := g3
    repeat ((first | unfold cf_134 | unfold cf_134_0 | unfold cf_134_15 | unfold cf_134_20 | unfold cf_134_25 | unfold cf_134_34 | unfold cf_134_36 | unfold cf_134_41 | unfold cf_134_52 | unfold cf_134_56 | unfold cf_134_66 | unfold cf_134_73 | unfold cf_134_78 | unfold cf_134_91); try simp (disch := omega) only [ev_S, ev_C, ↓reduceIte, Nat.reduceEqDiff, Nat.reduceLeDiff, Nat.reduceAdd, Nat.reduceMul, Nat.reduceSub, reduceCtorEq, l32_0, l32_1, l32_2, l32_3, l32_4, l32_32, l32_42, l32_43, l32_63, tg_k', tg_low, bulkV, h1, g2, g3, i64_32])
theorem c_depth (hh : cHp t u w) (h : cN (cel t) u v x) : cf_135 N X v t = some (t, .inl (some (.int (Int32.ofNat (dN x))))) := by
  obtain ⟨h1, h2, h3, h4, h5, h6, h7, h8, h9⟩ := hh
  have h := cN_iff.mp h
  have hd := dN_0 (x := x)
  have hp := fun n l => dN_P (x := x) (n := n) (l := l)
  generalize vw x = V at h hd hp
  obtain z | r | q | ⟨n, l⟩ := V
  · have h : v = tg 0 z := h
    rw [h, hd (show ¬ (0 : Int32) = 3 by decide)]
    repeat ((first | unfold cf_135 | unfold cf_135_0 | unfold cf_135_16 | unfold cf_135_20 | unfold cf_135_28 | unfold cf_135_38 | unfold cf_135_39); try simp (disch := omega) only [ev_S, ev_C, ↓reduceIte, Nat.reduceEqDiff, Nat.reduceLeDiff, Nat.reduceAdd, Nat.reduceMul, Nat.reduceSub, reduceCtorEq, l32_0, l32_1, l32_2, l32_3, l32_4, l32_32, l32_42, l32_43, l32_63, tg_s', lg_3, tg_low])
  · obtain ⟨a, h, -⟩ := h
    rw [h, hd (show ¬ (1 : Int32) = 3 by decide)]
    repeat ((first | unfold cf_135 | unfold cf_135_0 | unfold cf_135_16 | unfold cf_135_20 | unfold cf_135_28 | unfold cf_135_38 | unfold cf_135_39); try simp (disch := omega) only [ev_S, ev_C, ↓reduceIte, Nat.reduceEqDiff, Nat.reduceLeDiff, Nat.reduceAdd, Nat.reduceMul, Nat.reduceSub, reduceCtorEq, l32_0, l32_1, l32_2, l32_3, l32_4, l32_32, l32_42, l32_43, l32_63, tg_s', lg_3, tg_low])
  · obtain ⟨a, h, -⟩ := h
    rw [h, hd (show ¬ (2 : Int32) = 3 by decide)]
    repeat ((first | unfold cf_135 | unfold cf_135_0 | unfold cf_135_16 | unfold cf_135_20 | unfold cf_135_28 | unfold cf_135_38 | unfold cf_135_39); try simp (disch := omega) only [ev_S, ev_C, ↓reduceIte, Nat.reduceEqDiff, Nat.reduceLeDiff, Nat.reduceAdd, Nat.reduceMul, Nat.reduceSub, reduceCtorEq, l32_0, l32_1, l32_2, l32_3, l32_4, l32_32, l32_42, l32_43, l32_63, tg_s', lg_3, tg_low])
  · obtain ⟨a, h, g1, g2, g3, g4, -⟩ := h
    rw [h, hp n l rfl]
    have g4 : (kB t 43).2 (a + 2) = _ := g4
    repeat ((first | unfold cf_135 | unfold cf_135_0 | unfold cf_135_16 | unfold cf_135_20 | unfold cf_135_28 | unfold cf_135_38 | unfold cf_135_39); try simp (disch := omega) only [ev_S, ev_C, ↓reduceIte, Nat.reduceEqDiff, Nat.reduceLeDiff, Nat.reduceAdd, Nat.reduceMul, Nat.reduceSub, reduceCtorEq, l32_0, l32_1, l32_2, l32_3, l32_4, l32_32, l32_42, l32_43, l32_63, tg_s', lg_3, tg_low, h1, g4, i64_32])
/-- one more part gathered -/
theorem c_put1 (hh : cHp t u w) (hw : w < 61000) : ∃ t', cf_123 N X v t = some (t', .inl none) ∧ cHp t' u (w + 1) ∧ hfr t t' ∧ kB t' 43 = kB t 43 ∧ prt t' w = v ∧ (∀ y, y < w → prt t' y = prt t y) := by
  obtain ⟨h1, h2, h3, h4, h5, h6, h7, h8, h9⟩ := hh
  have hk9 := h9.k
  by_cases c : w = (kB t 44).1
  · have hl := lgc2 (a := (kB t 44).1) (b := 2 * w) h5 (by omega) (by omega)
    have h9a := h9.1
    unfold pot at h9a
    have hm : Nat.min w (2 * w) = w := Nat.min_eq_left (by omega)
    refine ⟨jI (jB (jMv (jNL t (2 * w) (kcp 0 (kB t 44).2 w)) 44) 44 (vp_updL (kcp 0 (kB t 44).2 w) w v)) 42 3 (Int32.ofNat (w + 1)), ?_, ⟨h1, rfl, h3, ?_, ?_, h6, h7, ?_, ?_⟩, ⟨fun k f r => if_neg (fun q => r ⟨q.1, Or.inr q.2⟩), rfl, rfl, fun k r1 r2 r3 => ⟨?_, ?_, ?_⟩, rfl, rfl, ?_, ?_, ?_⟩, rfl, if_pos rfl, fun y hy => ?_⟩
    · have c' : (kB t 44).1 = w := c.symm
      repeat ((first | unfold cf_123 | unfold cf_123_0 | unfold cf_123_12 | unfold cf_123_29); try simp (disch := omega) only [ev_S, ev_C, ↓reduceIte, Nat.reduceEqDiff, Nat.reduceLeDiff, Nat.reduceAdd, Nat.reduceMul, Nat.reduceSub, reduceCtorEq, l32_0, l32_1, l32_2, l32_3, l32_4, l32_42, l32_44, h2, c', hm])
    · show w + 1 ≤ 2 * w
      omega
    · show 1 ≤ 2 * w
      omega
    · show 2 * w < 130000
      omega
    · refine ⟨?_, h9.2⟩
      show kN t + 1 + 200 < zz_out + (lgc (kB t 43).1 + lgc (2 * w) + (kA t 46).1 / 64 + lgc (kB t 52).1 + lgc (kA t 55).1 + lgc (kA t 56).1 + lgc (kA t 57).1)
      omega
    · show (if k = 44 then kA (jNL t (2 * w) (kcp 0 (kB t 44).2 w)) 111 else kA t k) = _
      exact if_neg r2
    · show (if k = 44 then _ else (if k = 44 then _ else (if k = 111 then _ else kB t k))) = _
      rw [if_neg r2, if_neg r2, if_neg r3]
    · show (if k = 44 then _ else (if k = 111 then _ else kD t k)) = _
      rw [if_neg r2, if_neg r3]
    · show kN t ≤ kN t + 1
      omega
    · show kN t + 1 + pot t ≤ kN t + (lgc (kB t 43).1 + lgc (2 * w) + (kA t 46).1 / 64 + lgc (kB t 52).1 + lgc (kA t 55).1 + lgc (kA t 56).1 + lgc (kA t 57).1)
      unfold pot
      omega
    · show kQ t + 2 * w + poq t ≤ kQ t + (2 * (kB t 43).1 + 2 * (2 * w) + 17 * (kA t 46).1 + 2 * (kB t 52).1 + 2 * (kA t 55).1 + 2 * (kA t 56).1 + 2 * (kA t 57).1)
      unfold poq
      omega
    · show vp_updL (kcp 0 (kB t 44).2 w) w v y = _
      rw [updL_n (by omega), kcp_lt hy]
  · have hw2 : w < (kB t 44).1 := by omega
    refine ⟨jI (jB t 44 (vp_updL (kB t 44).2 w v)) 42 3 (Int32.ofNat (w + 1)), ?_, ⟨h1, rfl, h3, hw2, h5, h6, h7, h8, h9⟩, ⟨fun k f r => if_neg (fun q => r ⟨q.1, Or.inr q.2⟩), rfl, rfl, fun k r1 r2 r3 => ⟨rfl, if_neg r2, rfl⟩, rfl, rfl, Nat.le_refl _, Nat.le_refl _, Nat.le_refl _⟩, rfl, if_pos rfl, fun y hy => updL_n (by omega)⟩
    repeat ((first | unfold cf_123 | unfold cf_123_0 | unfold cf_123_12 | unfold cf_123_29); try simp (disch := omega) only [ev_S, ev_C, ↓reduceIte, Nat.reduceEqDiff, Nat.reduceLeDiff, Nat.reduceAdd, Nat.reduceMul, Nat.reduceSub, reduceCtorEq, l32_0, l32_1, l32_2, l32_3, l32_4, l32_42, l32_44, h2])
/-- a list gathered from f on -/
def gth (t : cS) (f : Nat) (vs : List Int64) : Prop := ∀ i (hi : i < vs.length), prt t (f + i) = vs[i]
theorem gth.app {t t' : cS} {f : Nat} {vs : List Int64} {v : Int64} (h : gth t f vs) (hk : ∀ y, y < f + vs.length → prt t' y = prt t y) (hv : prt t' (f + vs.length) = v) : gth t' f (vs ++ [v]) := fun i hi => by
  rw [List.length_append] at hi
  have hi : i < vs.length + 1 := hi
  by_cases c : i < vs.length
  · rw [hk _ (by omega), List.getElem_append_left c]
    exact h i c
  · have e : i = vs.length := by omega
    subst e
    rw [hv, List.getElem_append_right (Nat.le_refl _)]
    simp only [Nat.sub_self, List.getElem_cons_zero]
end CHR
end
