/-! ===== PURE: lay, copy (the reference's) ===== -/
theorem mA_mA {s : mS} {k : Nat} {f g : Nat → Int32} : mA (mA s k f) k g = mA s k g := by
  unfold mA
  refine Prod.ext rfl (Prod.ext rfl (Prod.ext (funext fun q => ?_) rfl))
  show (if q = k then g else if q = k then f else s.2.2.1 q) = if q = k then g else s.2.2.1 q
  by_cases e : q = k
  · rw [if_pos e, if_pos e]
  · rw [if_neg e, if_neg e, if_neg e]
theorem mA_id {s : mS} {k : Nat} : mA s k (s.2.2.1 k) = s := by
  unfold mA
  refine Prod.ext rfl (Prod.ext rfl (Prod.ext (funext fun q => ?_) rfl))
  show (if q = k then s.2.2.1 k else s.2.2.1 q) = s.2.2.1 q
  by_cases e : q = k
  · rw [if_pos e, e]
  · rw [if_neg e]
/-- the numbers of [b + i, b + n) are those of [a + i, a + n) -/
def cpz (h : Nat → Int32) (a b i n : Nat) (y : Nat) : Int32 := if b + i ≤ y ∧ y < b + n then h (a + (y - b)) else h y
section LA
variable {N : Nat} {s : mS} {x4 x5 x6 : Int32}
theorem lay_copy {f a b n : Nat} (ha : a + n ≤ 166300) (hb : b + n ≤ 166300) (hd : a + n ≤ b ∨ b + n ≤ a) : ∀ (c i : Nat) (s : mS), i + c = n → mf_75_L1 N (f + (c + 1)) 2 (Int32.ofNat i) x4 x5 x6 (Int32.ofNat a) (Int32.ofNat b) (Int32.ofNat n) s = mf_75_L1 N f 1 0 x4 x5 x6 (Int32.ofNat a) (Int32.ofNat b) 0 (mA s 47 (cpz (s.2.2.1 47) a b i n)) := by
  intro c
  induction c with
  | zero =>
    intro i s hi
    have e : cpz (s.2.2.1 47) a b i n = s.2.2.1 47 := funext fun y => if_neg (by omega)
    rw [e, mA_id]
    show mf_75_99 N (mf_75_L1 N f) x4 x5 x6 (Int32.ofNat a) (Int32.ofNat b) (Int32.ofNat n) (Int32.ofNat i) s = _
    unfold mf_75_99
    rw [if_pos ((i32le (by omega) (by omega)).mpr (by omega))]
    rfl
  | succ c ih =>
    intro i s hi
    show mf_75_99 N (mf_75_L1 N (f + (c + 1))) x4 x5 x6 (Int32.ofNat a) (Int32.ofNat b) (Int32.ofNat n) (Int32.ofNat i) s = _
    unfold mf_75_99
    rw [if_neg (fun q => by have := (i32le (by omega) (by omega)).mp q; omega)]
    unfold mf_75_106
    have e1 : Int32.ofNat a + Int32.ofNat i = Int32.ofNat (a + i) := i32add
    have e2 : Int32.ofNat b + Int32.ofNat i = Int32.ofNat (b + i) := i32add
    rw [if_pos (gd e1 (by omega) (by decide)), if_pos (gd e2 (by omega) (by decide)), cl e1 (by omega), cl e2 (by omega), show Int32.ofNat i + 1 = Int32.ofNat (i + 1) from i32al, ih (i + 1) _ (by omega), mA_mA]
    congr 1
    refine congrArg _ (funext fun y => ?_)
    show cpz (upd (s.2.2.1 47) (b + i) (s.2.2.1 47 (a + i))) a b (i + 1) n y = cpz (s.2.2.1 47) a b i n y
    unfold cpz upd
    by_cases c1 : b + (i + 1) ≤ y ∧ y < b + n
    · rw [if_pos c1, if_neg (show ¬ a + (y - b) = b + i by omega), if_pos (show b + i ≤ y ∧ y < b + n from ⟨by omega, c1.2⟩)]
    · rw [if_neg c1]
      by_cases c2 : y = b + i
      · rw [if_pos c2, if_pos ⟨by omega, by omega⟩, c2, show a + (b + i - b) = a + i by omega]
      · rw [if_neg c2, if_neg (by omega)]
/-- behind the last part, and of a ROW at once -/
theorem lay_out {f a i : Nat} {b : Int32} {P : Nat → Nod → Prop} {v : Vw} (H : Wy (s.2.2.1 47) a P v) (ha : a + wV wn v ≤ 166300) (hi : i = szV v ∨ kdV v = 1) (hz : i < 166300) : mf_75_L1 N (f + 1) 1 (Int32.ofNat i) x4 x5 x6 (Int32.ofNat a) b 0 s = mf_75_L1 N f 0 0 x4 x5 (x6 + 1) 0 0 0 s := by
  obtain ⟨h1, h2, h3⟩ := H.kd
  have hsz : szV v ≤ wV wn v := by
    obtain z | r | q | ⟨n, l⟩ := v
    · exact Nat.zero_le _
    · show r.length ≤ 2 + r.length
      omega
    · show q.length ≤ 2 + q.length
      omega
    · show l.length ≤ 2 + 2 * l.length
      omega
  show mf_75_135 N (mf_75_L1 N f) x4 x5 x6 (Int32.ofNat a) b (Int32.ofNat i) s = _
  unfold mf_75_135
  rw [r_size H ha]
  show mf_75_143 N (mf_75_L1 N f) x4 x5 x6 (Int32.ofNat a) b (Int32.ofNat i) (Int32.ofNat i) (Int32.ofNat (szV v)) s = _
  unfold mf_75_143
  by_cases c : szV v ≤ i
  · rw [if_pos ((i32le (by omega) (by omega)).mpr c)]
    rfl
  · rw [if_neg (fun q => c ((i32le (by omega) (by omega)).mp q))]
    have hk : kdV v = 1 := hi.resolve_left (by omega)
    unfold mf_75_146
    rw [if_pos (gd rfl (by omega) (by decide)), i32c (m := a) (by omega), h1, if_pos hk]
    rfl
/-- an INT within a PACK is passed over -/
theorem lay_skip {f a i n : Nat} {b : Int32} {P : Nat → Nod → Prop} {l : List (Th n)} (H : Wy (s.2.2.1 47) a P (vP n l)) (ha : a + wV wn (vP n l) ≤ 166300) (hi : i < l.length) {z : Int32} (hz : intT n l[i] = some z) : mf_75_L1 N (f + 1) 1 (Int32.ofNat i) x4 x5 x6 (Int32.ofNat a) b 0 s = mf_75_L1 N f 1 (Int32.ofNat (i + 1)) x4 x5 x6 (Int32.ofNat a) b 0 s := by
  have hw : a + (2 + 2 * l.length) ≤ 166300 := ha
  have h1 : s.2.2.1 47 a = 3 := H.1
  show mf_75_135 N (mf_75_L1 N f) x4 x5 x6 (Int32.ofNat a) b (Int32.ofNat i) s = _
  unfold mf_75_135
  rw [r_size H ha]
  show mf_75_143 N (mf_75_L1 N f) x4 x5 x6 (Int32.ofNat a) b (Int32.ofNat i) (Int32.ofNat i) (Int32.ofNat l.length) s = _
  unfold mf_75_143
  rw [if_neg (fun q => by have := (i32le (by omega) (by omega)).mp q; omega)]
  unfold mf_75_146
  rw [if_pos (gd rfl (by omega) (by decide)), i32c (m := a) (by omega), h1, if_neg (by decide)]
  unfold mf_75_157
  rw [if_pos (gd rfl (by omega) (by decide)), i32c (m := a) (by omega), h1, if_neg (fun q => q rfl)]
  unfold mf_75_168
  rw [r_isInt H ha hi, hz]
  show mf_75_261 N (mf_75_L1 N f) x4 x5 x6 (Int32.ofNat a) b (Int32.ofNat i) s = _
  unfold mf_75_261
  rw [show Int32.ofNat i + 1 = Int32.ofNat (i + 1) from i32al]
/-- where the number is that tells part j -/
def ofs (v : Vw) (j : Nat) : Nat := match v with
  | .inr (.inr (.inr _)) => 3 + 2 * j
  | _ => 2 + j
/-- the state behind a part's entry -/
abbrev layS (s : mS) (m c e b o : Nat) : mS := mA (mA (mA s 58 (upd (s.2.2.1 58) m (Int32.ofNat c))) 59 (upd (s.2.2.1 59) m (Int32.ofNat e))) 47 (upd (s.2.2.1 47) (b + o) (Int32.ofNat e - Int32.ofNat b))
theorem lay_190 {f a b c e m i o np : Nat} {kd : Int32} (h1 : s.2.2.1 47 a = kd) (ha : a < 166300) (hb : b + o < 166300) (hm : m < 700) (ho : o = if kd = 2 then 2 + i else 3 + 2 * i) (hn : ∀ N, mf_300 N (Int32.ofNat c) (layS s m c e b o) = some (layS s m c e b o, some (.int (Int32.ofNat np)))) : mf_75_190 N (mf_75_L1 N f) (Int32.ofNat m) (Int32.ofNat e) x6 (Int32.ofNat a) (Int32.ofNat b) (Int32.ofNat i) (Int32.ofNat c) s = mf_75_L1 N f 1 (Int32.ofNat (i + 1)) (Int32.ofNat (m + 1)) (Int32.ofNat (e + np)) x6 (Int32.ofNat a) (Int32.ofNat b) 0 (layS s m c e b o) := by
  have hq : ∀ y2 : Int32, y2 = Int32.ofNat o → mf_75_243 N (mf_75_L1 N f) (Int32.ofNat m + 1) (Int32.ofNat e) x6 (Int32.ofNat a) (Int32.ofNat b) (Int32.ofNat i) (Int32.ofNat c) (Int32.ofNat b) y2 (mA (mA s 58 (upd (s.2.2.1 58) m (Int32.ofNat c))) 59 (upd (s.2.2.1 59) m (Int32.ofNat e))) = mf_75_L1 N f 1 (Int32.ofNat (i + 1)) (Int32.ofNat (m + 1)) (Int32.ofNat (e + np)) x6 (Int32.ofNat a) (Int32.ofNat b) 0 (layS s m c e b o) := fun y2 hy => by
    subst hy
    have e2 : Int32.ofNat b + Int32.ofNat o = Int32.ofNat (b + o) := i32add
    unfold mf_75_243
    rw [if_pos (gd e2 hb (by decide)), cl e2 (by omega)]
    show mo_bi (mf_300 N (Int32.ofNat c) (layS s m c e b o)) _ = _
    rw [hn]
    show mf_75_L1 N f 1 (Int32.ofNat i + 1) (Int32.ofNat m + 1) (Int32.ofNat e + Int32.ofNat np) x6 (Int32.ofNat a) (Int32.ofNat b) 0 (layS s m c e b o) = _
    rw [show Int32.ofNat i + 1 = Int32.ofNat (i + 1) from i32al, show Int32.ofNat m + 1 = Int32.ofNat (m + 1) from i32al, i32add]
  unfold mf_75_190
  rw [if_pos (gd rfl hm (by decide)), if_pos (gd rfl hm (by decide)), if_pos (gd rfl ha (by decide)), i32c (m := a) (by omega), i32c (m := m) (by omega), h1]
  by_cases c2 : kd = 2
  · rw [if_neg (fun q => q c2)]
    rw [if_pos c2] at ho
    exact hq _ (by rw [ho]; exact i32add (a := 2))
  · rw [if_pos c2]
    rw [if_neg c2] at ho
    refine hq _ ?_
    rw [ho, show (2 : Int32) * Int32.ofNat i = Int32.ofNat (2 * i) from i32ml]
    exact i32add (a := 3)
/-- a part of a TABLE, or one of a PACK that is no INT, is entered -/
theorem lay_part {a b e m i : Nat} {P : Nat → Nod → Prop} {v : Vw} (H : Wy (s.2.2.1 47) a P v) (ha : a + wV wn v ≤ 166300) (hb : b + wV wn v ≤ 166300) (hm : m < 700) (hi : i < (kdsV v).length) (hz : intV (vw (kdsV v)[i]) = none) : ∃ c, P c (kdsV v)[i] ∧ ∀ f np, (∀ N, mf_300 N (Int32.ofNat c) (layS s m c e b (ofs v i)) = some (layS s m c e b (ofs v i), some (.int (Int32.ofNat np)))) → mf_75_L1 N (f + 1) 1 (Int32.ofNat i) (Int32.ofNat m) (Int32.ofNat e) x6 (Int32.ofNat a) (Int32.ofNat b) 0 s = mf_75_L1 N f 1 (Int32.ofNat (i + 1)) (Int32.ofNat (m + 1)) (Int32.ofNat (e + np)) x6 (Int32.ofNat a) (Int32.ofNat b) 0 (layS s m c e b (ofs v i)) := by
  obtain z | r | q | ⟨n, l⟩ := v
  · exact H.elim
  · exact absurd hi (Nat.not_lt_zero _)
  · have hi' : i < q.length := by
      have : i < (q.map nR).length := hi
      rwa [List.length_map] at this
    have hw : a + (2 + q.length) ≤ 166300 := ha
    have hv : b + (2 + q.length) ≤ 166300 := hb
    have h1 : s.2.2.1 47 a = 2 := H.1
    obtain ⟨c, g1, g2⟩ := r_partT (N := N) H ha hi'
    have ek : (kdsV (vT q))[i] = nR q[i] := List.getElem_map _
    refine ⟨c, by rw [ek]; exact g2, fun f np hn => ?_⟩
    show mf_75_135 N (mf_75_L1 N f) (Int32.ofNat m) (Int32.ofNat e) x6 (Int32.ofNat a) (Int32.ofNat b) (Int32.ofNat i) s = _
    unfold mf_75_135
    rw [r_size H ha]
    show mf_75_143 N (mf_75_L1 N f) (Int32.ofNat m) (Int32.ofNat e) x6 (Int32.ofNat a) (Int32.ofNat b) (Int32.ofNat i) (Int32.ofNat i) (Int32.ofNat q.length) s = _
    unfold mf_75_143
    rw [if_neg (fun q => by have := (i32le (by omega) (by omega)).mp q; omega)]
    unfold mf_75_146
    rw [if_pos (gd rfl (by omega) (by decide)), i32c (m := a) (by omega), h1, if_neg (by decide)]
    unfold mf_75_157
    rw [if_pos (gd rfl (by omega) (by decide)), i32c (m := a) (by omega), h1, if_pos (by decide)]
    unfold mf_75_182
    rw [g1]
    exact lay_190 (o := 2 + i) h1 (by omega) (by omega) hm rfl hn
  · have hi' : i < l.length := by
      have : i < (l.map fun y => (⟨n, y⟩ : Nod)).length := hi
      rwa [List.length_map] at this
    have hw : a + (2 + 2 * l.length) ≤ 166300 := ha
    have hv : b + (2 + 2 * l.length) ≤ 166300 := hb
    have h1 : s.2.2.1 47 a = 3 := H.1
    have ek : (kdsV (vP n l))[i] = ⟨n, l[i]⟩ := List.getElem_map _
    rw [ek, ← vw_int] at hz
    have hz : intT n l[i] = none := hz
    obtain ⟨c, g1, g2⟩ := r_partP (N := N) H ha hi' hz
    refine ⟨c, by rw [ek]; exact g2, fun f np hn => ?_⟩
    show mf_75_135 N (mf_75_L1 N f) (Int32.ofNat m) (Int32.ofNat e) x6 (Int32.ofNat a) (Int32.ofNat b) (Int32.ofNat i) s = _
    unfold mf_75_135
    rw [r_size H ha]
    show mf_75_143 N (mf_75_L1 N f) (Int32.ofNat m) (Int32.ofNat e) x6 (Int32.ofNat a) (Int32.ofNat b) (Int32.ofNat i) (Int32.ofNat i) (Int32.ofNat l.length) s = _
    unfold mf_75_143
    rw [if_neg (fun q => by have := (i32le (by omega) (by omega)).mp q; omega)]
    unfold mf_75_146
    rw [if_pos (gd rfl (by omega) (by decide)), i32c (m := a) (by omega), h1, if_neg (by decide)]
    unfold mf_75_157
    rw [if_pos (gd rfl (by omega) (by decide)), i32c (m := a) (by omega), h1, if_neg (fun q => q rfl)]
    unfold mf_75_168
    rw [r_isInt H ha hi', hz]
    show mf_75_182 N (mf_75_L1 N f) (Int32.ofNat m) (Int32.ofNat e) x6 (Int32.ofNat a) (Int32.ofNat b) (Int32.ofNat i) s = _
    unfold mf_75_182
    rw [g1]
    exact lay_190 (o := 3 + 2 * i) h1 (by omega) (by omega) hm rfl hn
end LA
