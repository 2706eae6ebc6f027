/-! ===== runs that return or throw ===== -/
def zz_J (P : Nat → Option zz_M) (tf : Nat → Nat → FieldType) (fd : Nat → List Value) (X : Nat → Option zz_C) (d : Nat) (M : zz_M) (pc : Nat) (lv : List (Nat × Value)) (st : List Value) (h : zz_H) (Q : zz_O → zz_H → Prop) : Prop := ∃ (n : Nat) (o : zz_O) (hf : zz_H), zz_run P tf fd X n d M pc lv st h = some (o, hf) ∧ Q o hf
section ZG
variable {P : Nat → Option zz_M} {tf : Nat → Nat → FieldType} {fd : Nat → List Value} {X : Nat → Option zz_C}
variable {d : Nat} {M : zz_M} {pc : Nat} {lv : List (Nat × Value)} {st : List Value} {h : zz_H} {Q : zz_O → zz_H → Prop} {r : zz_N}
theorem zz_J.mono {Q' : zz_O → zz_H → Prop} (hE : zz_J P tf fd X d M pc lv st h Q) (hq : ∀ v hf, Q v hf → Q' v hf) : zz_J P tf fd X d M pc lv st h Q' := by
  obtain ⟨n, v, hf, h1, h2⟩ := hE
  exact ⟨n, v, hf, h1, hq _ _ h2⟩
theorem zz_E.ofG {Q : Option Value → zz_H → Prop} (h1 : zz_J P tf fd X d M pc lv st h (fun o hf => match o with
    | .inl v => Q v hf
    | .inr _ => False)) : zz_E P tf fd X d M pc lv st h Q := by
  obtain ⟨n, o, hf, h1, h2⟩ := h1
  cases o with
  | inl v => exact ⟨n, v, hf, h1, h2⟩
  | inr q => exact absurd h2 (fun z => z)
theorem zz_J.weak {a b : List (Nat × Value)} (hE : zz_J P tf fd X d M pc a st h Q) (hn : zz_ndb (a.map fun q => q.1) = true) (hs : zz_sub a b) : zz_J P tf fd X d M pc b st h Q := by
  obtain ⟨n, v, hf, h1, h2⟩ := hE
  exact ⟨n, v, hf, zz_run_w n d M pc a b st h _ (zz_ndb_ok hn) (zz_sub_le hs) h1, h2⟩
theorem zz_J.i {pc' : Nat} {lv' : List (Nat × Value)} {st' : List Value} {h' : zz_H} (hrow : zz_row M pc = some r) (hc : zz_cls r = 0) (hs : zz_step1 tf fd X M.1.2.2.1 r pc lv st h = some ((pc', lv', st'), h')) (k : zz_J P tf fd X d M pc' lv' st' h' Q) : zz_J P tf fd X d M pc lv st h Q := by
  obtain ⟨n, v, hf, h1, h2⟩ := k
  refine ⟨n + 1, v, hf, ?_, h2⟩
  unfold zz_run
  simp only [hrow, hc, hs]
  exact h1
theorem zz_J.n (pc' : Nat) {lv' : List (Nat × Value)} {st' : List Value} {h' : zz_H} (hrow : zz_row M pc = some r) (hc : zz_cls r = 0) (hs : zz_step1 tf fd X M.1.2.2.1 r pc lv st h = some ((pc', lv', st'), h')) (k : zz_J P tf fd X d M pc' lv' st' h' Q) : zz_J P tf fd X d M pc lv st h Q := zz_J.i hrow hc hs k
theorem zz_J.c (pc' : Nat) (v : Value) {v0 : Value} (hrow : zz_row M pc = some r) (hc : zz_cls r = 0) (hs : zz_step1 tf fd X M.1.2.2.1 r pc lv st h = some ((pc', lv, v0 :: st), h)) (hv : v0 = v) (k : zz_J P tf fd X d M pc' lv (v :: st) h Q) : zz_J P tf fd X d M pc lv st h Q := by
  subst hv
  exact zz_J.i hrow hc hs k
theorem zz_J.ret {v : Option Value} (hrow : zz_row M pc = some r) (hc : zz_cls r = 1) (hs : zz_ret M.1.2.2.2 r.2.1 r.2.2.1 st h = some (v, h)) (k : Q (.inl v) h) : zz_J P tf fd X d M pc lv st h Q := by
  refine ⟨1, .inl v, h, ?_, k⟩
  unfold zz_run
  simp only [hrow, hc, hs]
theorem zz_J.throw (hrow : zz_row M pc = some r) (hc : zz_cls r = 3) (hd : 8 ≤ d ∧ zz_cats st ≤ 8 ∧ h.length < zz_out) (k : Q (.inr h.length) (h ++ [.inr (14, [])])) : zz_J P tf fd X d M pc lv st h Q := by
  refine ⟨1, _, _, ?_, k⟩
  unfold zz_run
  simp only [hrow, hc]
  rw [if_pos hd]
/-- what a call comes to, by its row's mark -/
def zz_after (nn : Int) (Q : zz_O → zz_H → Prop) (K : Option Value → zz_H → Prop) : zz_O → zz_H → Prop := fun o h' => match o with
  | .inl v => K v h'
  | .inr q => if nn = 5 then Q (.inr q) h' else if nn = 2005 then Q (.inl none) h' else False
theorem zz_J.cl (pc' : Nat) {as rest : List Value} {M' : zz_M} (hrow : zz_row M pc = some r) (hc : zz_cls r = 2) (hnn : ¬ r.2.2.2.2.2 < 0) (hs : zz_site X r.2.1 r.2.2.2.2.1 r.2.2.2.2.2 st h = some (as, rest)) (hM : P r.2.2.2.1 = some M') (hl : r.2.2.1 = 3 ∧ zz_words as ≤ M'.1.2.2.1) (hp : pc + 3 = pc')
    (k : zz_J P tf fd X d M' 0 (lv_args 0 as) [] h (zz_after r.2.2.2.2.2 Q (fun v h' => zz_J P tf fd X (d + 1) M pc' lv (v.toList ++ rest) h' Q))) : zz_J P tf fd X (d + 1) M pc lv st h Q := by
  subst hp
  obtain ⟨n1, o1, h1, k1, hq⟩ := k
  cases o1 with
  | inl v1 =>
    obtain ⟨n2, v2, h2, k2, hq⟩ := hq
    refine ⟨n1 + n2 + 1, v2, h2, ?_, hq⟩
    unfold zz_run
    simp only [hrow, hc]
    rw [if_neg hnn]
    simp only [hs, hM]
    rw [if_pos hl]
    simp only [zz_run_add k1 n2]
    rw [Nat.add_comm n1 n2]
    exact zz_run_add k2 n1
  | inr q1 =>
    unfold zz_after at hq
    dsimp only at hq
    by_cases h5 : r.2.2.2.2.2 = 5
    · rw [if_pos h5] at hq
      refine ⟨n1 + 1, _, _, ?_, hq⟩
      unfold zz_run
      simp only [hrow, hc]
      rw [if_neg hnn]
      simp only [hs, hM]
      rw [if_pos hl]
      simp only [k1]
      rw [if_pos h5]
    · rw [if_neg h5] at hq
      by_cases h6 : r.2.2.2.2.2 = 2005
      · rw [if_pos h6] at hq
        refine ⟨n1 + 1, _, _, ?_, hq⟩
        unfold zz_run
        simp only [hrow, hc]
        rw [if_neg hnn]
        simp only [hs, hM]
        rw [if_pos hl]
        simp only [k1]
        rw [if_neg h5, if_pos h6]
      · rw [if_neg h6] at hq
        exact absurd hq (fun z => z)
theorem zz_J.spec (pc' : Nat) {st' : List Value} {h' : zz_H} (hrow : zz_row M pc = some r) (hc : zz_cls r = 2) (hnn : r.2.2.2.2.2 < 0) (hs : zz_spec r.2.1 r.2.2.2.2.2 st h = some (st', h')) (hl : r.2.2.1 = 3) (hp : pc + 3 = pc') (k : zz_J P tf fd X (d + 1) M pc' lv st' h' Q) : zz_J P tf fd X (d + 1) M pc lv st h Q := by
  subst hp
  obtain ⟨n, v, hf, h1, h2⟩ := k
  refine ⟨n + 1, v, hf, ?_, h2⟩
  unfold zz_run
  simp only [hrow, hc]
  rw [if_pos hnn]
  simp only [hs]
  rw [if_pos hl]
  exact h1
theorem zz_J.b1 (p1 p2 : Nat) {A : Prop} [Decidable A] {cd : ClassFile.Cond} {off : Int} {x : Int32} {pc0 na nb : Nat} {nn : Int} (hrow : zz_row M pc = some (pc0, .ifCond cd off, 3, na, nb, nn)) (hb : zz_cond cd x 0 = decide A) (ht : 0 ≤ (pc : Int) + off) (h1 : zz_to pc off = p1) (h2 : pc + 3 = p2) (k1 : A → zz_J P tf fd X d M p1 lv st h Q) (k2 : ¬ A → zz_J P tf fd X d M p2 lv st h Q) : zz_J P tf fd X d M pc lv (.int x :: st) h Q := by
  by_cases hA : A
  · subst h1
    refine zz_J.i hrow rfl ?_ (k1 hA)
    show zz_wh (zz_if cd off 3 pc lv (.int x :: st)) h = _
    unfold zz_if
    simp only [if_true]
    rw [hb, decide_eq_true hA]
    simp [zz_jump, zz_wh, ht]
  · subst h2
    refine zz_J.i hrow rfl ?_ (k2 hA)
    show zz_wh (zz_if cd off 3 pc lv (.int x :: st)) h = _
    unfold zz_if
    simp only [if_true]
    rw [hb, decide_eq_false hA]
    simp [zz_jump, zz_wh, ht]
theorem zz_J.b2 (p1 p2 : Nat) {A : Prop} [Decidable A] {cd : ClassFile.Cond} {off : Int} {x y : Int32} {pc0 na nb : Nat} {nn : Int} (hrow : zz_row M pc = some (pc0, .if_icmp cd off, 3, na, nb, nn)) (hb : zz_cond cd x y = decide A) (ht : 0 ≤ (pc : Int) + off) (h1 : zz_to pc off = p1) (h2 : pc + 3 = p2) (k1 : A → zz_J P tf fd X d M p1 lv st h Q) (k2 : ¬ A → zz_J P tf fd X d M p2 lv st h Q) : zz_J P tf fd X d M pc lv (.int y :: .int x :: st) h Q := by
  by_cases hA : A
  · subst h1
    refine zz_J.i hrow rfl ?_ (k1 hA)
    show zz_wh (zz_icmp cd off 3 pc lv (.int y :: .int x :: st)) h = _
    unfold zz_icmp
    simp only [if_true]
    rw [hb, decide_eq_true hA]
    simp [zz_jump, zz_wh, ht]
  · subst h2
    refine zz_J.i hrow rfl ?_ (k2 hA)
    show zz_wh (zz_icmp cd off 3 pc lv (.int y :: .int x :: st)) h = _
    unfold zz_icmp
    simp only [if_true]
    rw [hb, decide_eq_false hA]
    simp [zz_jump, zz_wh, ht]
/-- two references outside, told apart by their numbers -/
theorem zz_J.ba (p1 p2 : Nat) {cd : ClassFile.ACond} {off : Int} {x y : Nat} {pc0 na nb : Nat} {nn : Int} (hrow : zz_row M pc = some (pc0, .if_acmp cd off, 3, na, nb, nn)) (hx : (zz_out < x ∧ x ≤ zz_out + 41) ∧ zz_out < y ∧ y ≤ zz_out + 41) (ht : 0 ≤ (pc : Int) + off) (h1 : zz_to pc off = p1) (h2 : pc + 3 = p2) (k1 : zz_ac cd x y = true → zz_J P tf fd X d M p1 lv st h Q) (k2 : ¬ zz_ac cd x y = true → zz_J P tf fd X d M p2 lv st h Q) : zz_J P tf fd X d M pc lv (.ref y :: .ref x :: st) h Q := by
  by_cases hA : zz_ac cd x y = true
  · subst h1
    refine zz_J.i hrow rfl ?_ (k1 hA)
    show zz_wh (zz_acmp cd off 3 pc lv (.ref y :: .ref x :: st)) h = _
    unfold zz_acmp
    dsimp only
    rw [if_pos ⟨rfl, hx⟩, hA]
    simp [zz_jump, zz_wh, ht]
  · subst h2
    refine zz_J.i hrow rfl ?_ (k2 hA)
    show zz_wh (zz_acmp cd off 3 pc lv (.ref y :: .ref x :: st)) h = _
    unfold zz_acmp
    dsimp only
    rw [if_pos ⟨rfl, hx⟩, Bool.eq_false_iff.mpr hA]
    simp [zz_jump, zz_wh, ht]
/-- null or not -/
theorem zz_J.bn (p1 p2 : Nat) {v : Option Nat} {off : Int} {pc0 na nb : Nat} {nn : Int} (hrow : zz_row M pc = some (pc0, .ifnonnull off, 3, na, nb, nn)) (ht : 0 ≤ (pc : Int) + off) (h1 : zz_to pc off = p1) (h2 : pc + 3 = p2) (k1 : v.isSome = true → zz_J P tf fd X d M p1 lv st h Q) (k2 : ¬ v.isSome = true → zz_J P tf fd X d M p2 lv st h Q) : zz_J P tf fd X d M pc lv (zz_rv v :: st) h Q := by
  cases v with
  | some a =>
    subst h1
    refine zz_J.i hrow rfl ?_ (k1 rfl)
    show zz_wh (zz_null false off 3 pc lv (.ref a :: st)) h = _
    unfold zz_null
    simp [zz_jump, zz_wh, ht]
  | none =>
    subst h2
    refine zz_J.i hrow rfl ?_ (k2 (by decide))
    show zz_wh (zz_null false off 3 pc lv (.null :: st)) h = _
    unfold zz_null
    simp [zz_jump, zz_wh, ht]
theorem zz_J.bz (p2 : Nat) {a : Nat} {off : Int} {pc0 na nb : Nat} {nn : Int} (hrow : zz_row M pc = some (pc0, .ifnull off, 3, na, nb, nn)) (ht : 0 ≤ (pc : Int) + off) (h2 : pc + 3 = p2) (k2 : zz_J P tf fd X d M p2 lv st h Q) : zz_J P tf fd X d M pc lv (.ref a :: st) h Q := by
  subst h2
  refine zz_J.i hrow rfl ?_ k2
  show zz_wh (zz_null true off 3 pc lv (.ref a :: st)) h = _
  unfold zz_null
  simp [zz_jump, zz_wh, ht]
theorem zz_J.idv (pc' : Nat) {x y : Int32} {pc0 na nb : Nat} {nn : Int} (hrow : zz_row M pc = some (pc0, .idiv, 1, na, nb, nn)) (hy : ¬ y = 0) (hp : pc + 1 = pc') (k : zz_J P tf fd X d M pc' lv (.int (x / y) :: st) h Q) : zz_J P tf fd X d M pc lv (.int y :: .int x :: st) h Q := by
  subst hp
  refine zz_J.i hrow rfl ?_ k
  show zz_wh (zz_iid (fun x y => x / y) 1 pc lv (.int y :: .int x :: st)) h = _
  unfold zz_iid
  dsimp only
  rw [if_pos ⟨rfl, hy⟩]
  rfl
theorem zz_J.idr (pc' : Nat) {x y : Int32} {pc0 na nb : Nat} {nn : Int} (hrow : zz_row M pc = some (pc0, .irem, 1, na, nb, nn)) (hy : ¬ y = 0) (hp : pc + 1 = pc') (k : zz_J P tf fd X d M pc' lv (.int (x - x / y * y) :: st) h Q) : zz_J P tf fd X d M pc lv (.int y :: .int x :: st) h Q := by
  subst hp
  refine zz_J.i hrow rfl ?_ k
  show zz_wh (zz_iid (fun x y => x - x / y * y) 1 pc lv (.int y :: .int x :: st)) h = _
  unfold zz_iid
  dsimp only
  rw [if_pos ⟨rfl, hy⟩]
  rfl
theorem zz_J.ldv (pc' : Nat) {x y : Int64} {pc0 na nb : Nat} {nn : Int} (hrow : zz_row M pc = some (pc0, .ldiv, 1, na, nb, nn)) (hy : ¬ y = 0) (hp : pc + 1 = pc') (k : zz_J P tf fd X d M pc' lv (.long (x / y) :: st) h Q) : zz_J P tf fd X d M pc lv (.long y :: .long x :: st) h Q := by
  subst hp
  refine zz_J.i hrow rfl ?_ k
  show zz_wh (zz_lld (fun x y => x / y) 1 pc lv (.long y :: .long x :: st)) h = _
  unfold zz_lld
  dsimp only
  rw [if_pos ⟨rfl, hy⟩]
  rfl
theorem zz_J.ldr (pc' : Nat) {x y : Int64} {pc0 na nb : Nat} {nn : Int} (hrow : zz_row M pc = some (pc0, .lrem, 1, na, nb, nn)) (hy : ¬ y = 0) (hp : pc + 1 = pc') (k : zz_J P tf fd X d M pc' lv (.long (x - x / y * y) :: st) h Q) : zz_J P tf fd X d M pc lv (.long y :: .long x :: st) h Q := by
  subst hp
  refine zz_J.i hrow rfl ?_ k
  show zz_wh (zz_lld (fun x y => x - x / y * y) 1 pc lv (.long y :: .long x :: st)) h = _
  unfold zz_lld
  dsimp only
  rw [if_pos ⟨rfl, hy⟩]
  rfl
theorem zz_J.tv (p1 : Nat) {dflt lo hi : Int} {offs : Array Int} {x v : Int32} {pc0 ln na nb : Nat} {nn : Int} (hrow : zz_row M pc = some (pc0, .tableswitch dflt lo hi offs, ln, na, nb, nn)) (e : x = v) (hs : zz_tsw dflt lo hi offs pc v = some p1) (k : zz_J P tf fd X d M p1 lv st h Q) : zz_J P tf fd X d M pc lv (.int x :: st) h Q := by
  subst e
  refine zz_J.i hrow rfl ?_ k
  show zz_wh (zz_table dflt lo hi offs pc lv (.int x :: st)) h = _
  rw [zz_table_tsw, hs]
  rfl
theorem zz_J.td (p1 : Nat) {dflt lo hi : Int} {offs : Array Int} {x : Int32} {pc0 ln na nb : Nat} {nn : Int} (hrow : zz_row M pc = some (pc0, .tableswitch dflt lo hi offs, ln, na, nb, nn)) (hx : x.toInt < lo ∨ hi < x.toInt) (ht : 0 ≤ (pc : Int) + dflt) (hp : zz_to pc dflt = p1) (k : zz_J P tf fd X d M p1 lv st h Q) : zz_J P tf fd X d M pc lv (.int x :: st) h Q := by
  subst hp
  refine zz_J.i hrow rfl ?_ k
  show zz_wh (zz_table dflt lo hi offs pc lv (.int x :: st)) h = _
  rw [zz_table_tsw]
  unfold zz_tsw
  rw [decide_eq_true hx]
  dsimp only
  rw [if_pos ht]
  rfl
theorem zz_J.lk (p1 : Nat) (off : Int) {dflt : Int} {ps : Array (Int × Int)} {x : Int32} {pc0 ln na nb : Nat} {nn : Int} (hrow : zz_row M pc = some (pc0, .lookupswitch dflt ps, ln, na, nb, nn)) (ho : Op.lookupswitch.offset ps.toList dflt x.toInt = off) (hsrt : (ps.toList.zip (ps.toList.drop 1)).all (fun (a, next) => a.1 < next.1) = true) (ht : 0 ≤ (pc : Int) + off) (hp : zz_to pc off = p1) (k : zz_J P tf fd X d M p1 lv st h Q) : zz_J P tf fd X d M pc lv (.int x :: st) h Q := by
  subst hp
  refine zz_J.i hrow rfl ?_ k
  show zz_wh (zz_look dflt ps pc lv (.int x :: st)) h = _
  unfold zz_look
  dsimp only
  rw [ho, if_pos ⟨hsrt, ht⟩]
  rfl
/-! functions on heaps -/
def hgv (X : Nat → Option zz_C) (h : zz_H) (a ci k : Nat) : Option Value := if ci < 20 then (match zz_at h a with
    | some (.inr (cj, fs)) => if cj = ci then fs[k]? else none
    | _ => none) else if a < zz_out then none else match X (a - zz_out) with
    | some (.inr (cj, fs)) => if cj = ci then fs[k]? else none
    | _ => none
def hgi (X : Nat → Option zz_C) (h : zz_H) (a ci k : Nat) : Option Int32 := match hgv X h a ci k with
  | some (.int x) => some x
  | _ => none
def hgl (X : Nat → Option zz_C) (h : zz_H) (a ci k : Nat) : Option Int64 := match hgv X h a ci k with
  | some (.long x) => some x
  | _ => none
def hgr (X : Nat → Option zz_C) (h : zz_H) (a ci k : Nat) : Option Nat := match hgv X h a ci k with
  | some (.ref x) => some x
  | _ => none
def hpv (h : zz_H) (a ci k : Nat) (v : Value) : Option zz_H := match zz_at h a with
  | some (.inr (cj, fs)) => if cj = ci ∧ k < fs.length ∧ zz_fit (zt_tf ci k) v = true then some (h.set a (.inr (cj, fs.set k v))) else none
  | _ => none
def hai (X : Nat → Option zz_C) (h : zz_H) (a : Nat) (i : Int32) : Option Int32 := match zz_rd X h a with
  | some (.inl (t, n, .inl f)) => if t = 0 ∧ ¬ (i < 0 ∨ n ≤ i.toNatClampNeg) then some (f i.toNatClampNeg) else none
  | _ => none
def hab (X : Nat → Option zz_C) (h : zz_H) (a : Nat) (i : Int32) : Option Int32 := match zz_rd X h a with
  | some (.inl (t, n, .inl f)) => if (t = 2 ∨ t = 3) ∧ ¬ (i < 0 ∨ n ≤ i.toNatClampNeg) then some (f i.toNatClampNeg) else none
  | _ => none
def hal (X : Nat → Option zz_C) (h : zz_H) (a : Nat) (i : Int32) : Option Int64 := match zz_rd X h a with
  | some (.inl (t, n, .inr (.inl f))) => if t = 1 ∧ ¬ (i < 0 ∨ n ≤ i.toNatClampNeg) then some (f i.toNatClampNeg) else none
  | _ => none
def haq (X : Nat → Option zz_C) (h : zz_H) (a : Nat) (i : Int32) : Option (Option Nat) := match zz_rd X h a with
  | some (.inl (t, n, .inr (.inr (.inr (.inr f))))) => if (4 ≤ t ∧ (t < 6 ∨ ¬ a < zz_out)) ∧ ¬ (i < 0 ∨ n ≤ i.toNatClampNeg) then some (f i.toNatClampNeg) else none
  | _ => none
def har (X : Nat → Option zz_C) (h : zz_H) (a : Nat) (i : Int32) : Option Nat := match haq X h a i with
  | some (some x) => some x
  | _ => none
def hlen (X : Nat → Option zz_C) (h : zz_H) (a : Nat) : Option Int32 := match zz_rd X h a with
  | some (.inl (t, n, _)) => if t < 6 ∨ ¬ a < zz_out then some (Int32.ofNat n) else none
  | _ => none
def hsi (h : zz_H) (a : Nat) (i x : Int32) : Option zz_H := match zz_at h a with
  | some (.inl (t, n, .inl f)) => if t = 0 ∧ ¬ (i < 0 ∨ n ≤ i.toNatClampNeg) then some (h.set a (.inl (t, n, .inl (upd f i.toNatClampNeg x)))) else none
  | _ => none
def hsb (h : zz_H) (a : Nat) (i x : Int32) : Option zz_H := match zz_at h a with
  | some (.inl (t, n, .inl f)) => if (t = 2 ∨ t = 3) ∧ ¬ (i < 0 ∨ n ≤ i.toNatClampNeg) then some (h.set a (.inl (t, n, .inl (upd f i.toNatClampNeg (vp_nar (zz_ty t) x))))) else none
  | _ => none
def hsl (h : zz_H) (a : Nat) (i : Int32) (x : Int64) : Option zz_H := match zz_at h a with
  | some (.inl (t, n, .inr (.inl f))) => if t = 1 ∧ ¬ (i < 0 ∨ n ≤ i.toNatClampNeg) then some (h.set a (.inl (t, n, .inr (.inl (vp_updL f i.toNatClampNeg x))))) else none
  | _ => none
/-- what an instruction on the heap does, by the machine in little itself -/
def hst (nn : Int) (h : zz_H) (a : Nat) (i : Int32) (v : Nat) : Option zz_H := match (if nn = 1 then zz_aast2 1 0 [] [.ref v, .int i, .ref a] h else zz_aast 1 0 [] [.ref v, .int i, .ref a] h) with
  | some (_, h') => some h'
  | none => none
def hnw (h : zz_H) (ci : Nat) : Option zz_H := if h.length < zz_out then some (h ++ [.inr (ci, zt_fd ci)]) else none
def hna (h : zz_H) (ty : ArrayType) (n : Int32) : Option zz_H := match zz_newa ty 2 0 [] [.int n] h with
  | some (_, h') => some h'
  | none => none
def hmn (h : zz_H) (n k : Int32) : Option zz_H := match zz_mna 4 0 [] [.int k, .int n] h with
  | some (_, h') => some h'
  | none => none
def hcp (h : zz_H) (a0 : Nat) (sp : Int32) (a : Nat) (dp n : Int32) : Option zz_H := match zz_acp [.int n, .int dp, .ref a, .int sp, .ref a0] h with
  | some (_, h') => some h'
  | none => none
/-- the receiver's class -/
def hcl (X : Nat → Option zz_C) (h : zz_H) (b : Nat) (nn : Int) : Bool := match zz_rd X h b with
  | some (.inr (ci, _)) => decide ((b < zz_out ↔ ci < 20) ∧ ((ci : Int) = nn ∨ (ci : Int) + 1000 = nn ∨ (ci : Int) + 2000 = nn))
  | _ => false
theorem hgv_step {a ci k cp pc0 : Nat} {nn : Int} {v : Value} (e : hgv X h a ci k = some v) : zz_step1 tf fd X M.1.2.2.1 (pc0, .getfield cp, 3, ci, k, nn) pc lv (.ref a :: st) h = some ((pc + 3, lv, v :: st), h) := by
  show (if ci < 20 then zz_getf ci k 3 pc lv (.ref a :: st) h else zz_getx X ci k 3 pc lv (.ref a :: st) h) = _
  unfold hgv at e
  by_cases hc : ci < 20
  · rw [if_pos hc] at e ⊢
    unfold zz_getf
    split at e
    · rename_i cj fs ha
      split at e
      · rename_i hcj
        simp only [ha, e]
        rw [if_pos ⟨trivial, hcj⟩]
      · cases e
    · cases e
  · rw [if_neg hc] at e ⊢
    unfold zz_getx
    split at e
    · cases e
    · rename_i hlt
      dsimp only
      rw [if_neg hlt]
      split at e
      · rename_i cj fs ha
        split at e
        · rename_i hcj
          simp only [ha, e]
          rw [if_pos ⟨trivial, hcj⟩]
        · cases e
      · cases e
theorem hgi_ok {a ci k : Nat} {w : Int32} (e : hgi X h a ci k = some w) : hgv X h a ci k = some (.int w) := by
  unfold hgi at e
  split at e
  · rename_i x hx
    cases e
    exact hx
  · cases e
theorem zz_J.gi (pc' : Nat) {a ci k cp pc0 : Nat} {nn : Int} {w : Int32} (hrow : zz_row M pc = some (pc0, .getfield cp, 3, ci, k, nn)) (e : hgi X h a ci k = some w) (hp : pc + 3 = pc') (kk : zz_J P tf fd X d M pc' lv (.int w :: st) h Q) : zz_J P tf fd X d M pc lv (.ref a :: st) h Q := by
  subst hp
  exact zz_J.i hrow rfl (hgv_step (hgi_ok e)) kk
theorem hgl_ok {a ci k : Nat} {w : Int64} (e : hgl X h a ci k = some w) : hgv X h a ci k = some (.long w) := by
  unfold hgl at e
  split at e
  · rename_i x hx
    cases e
    exact hx
  · cases e
theorem zz_J.gl (pc' : Nat) {a ci k cp pc0 : Nat} {nn : Int} {w : Int64} (hrow : zz_row M pc = some (pc0, .getfield cp, 3, ci, k, nn)) (e : hgl X h a ci k = some w) (hp : pc + 3 = pc') (kk : zz_J P tf fd X d M pc' lv (.long w :: st) h Q) : zz_J P tf fd X d M pc lv (.ref a :: st) h Q := by
  subst hp
  exact zz_J.i hrow rfl (hgv_step (hgl_ok e)) kk
theorem hgr_ok {a ci k : Nat} {w : Nat} (e : hgr X h a ci k = some w) : hgv X h a ci k = some (.ref w) := by
  unfold hgr at e
  split at e
  · rename_i x hx
    cases e
    exact hx
  · cases e
theorem zz_J.gr (pc' : Nat) {a ci k cp pc0 : Nat} {nn : Int} {w : Nat} (hrow : zz_row M pc = some (pc0, .getfield cp, 3, ci, k, nn)) (e : hgr X h a ci k = some w) (hp : pc + 3 = pc') (kk : zz_J P tf fd X d M pc' lv (.ref w :: st) h Q) : zz_J P tf fd X d M pc lv (.ref a :: st) h Q := by
  subst hp
  exact zz_J.i hrow rfl (hgv_step (hgr_ok e)) kk
theorem zz_J.pv (pc' : Nat) {a ci k cp pc0 : Nat} {nn : Int} {v : Value} {h1 : zz_H} (hrow : zz_row M pc = some (pc0, .putfield cp, 3, ci, k, nn)) (e : hpv h a ci k v = some h1) (hp : pc + 3 = pc') (kk : zz_J P zt_tf fd X d M pc' lv st h1 Q) : zz_J P zt_tf fd X d M pc lv (v :: .ref a :: st) h Q := by
  subst hp
  refine zz_J.i hrow rfl ?_ kk
  show zz_putf (zt_tf ci k) ci k 3 pc lv (v :: .ref a :: st) h = _
  unfold hpv at e
  unfold zz_putf
  split at e
  · rename_i cj fs ha
    split at e
    · rename_i hc
      cases e
      simp only [ha]
      rw [if_pos ⟨trivial, hc⟩]
    · cases e
  · cases e
theorem zz_J.ai (pc' : Nat) {a pc0 na nb : Nat} {nn : Int} {i : Int32} {w : Int32} (hrow : zz_row M pc = some (pc0, .iaload, 1, na, nb, nn)) (e : hai X h a i = some w) (hp : pc + 1 = pc') (kk : zz_J P tf fd X d M pc' lv (.int w :: st) h Q) : zz_J P tf fd X d M pc lv (.int i :: .ref a :: st) h Q := by
  subst hp
  refine zz_J.i hrow rfl ?_ kk
  show zz_iald X 1 pc lv (.int i :: .ref a :: st) h = _
  unfold hai at e
  unfold zz_iald
  split at e
  · rename_i ha
    split at e
    · rename_i hc
      cases e
      simp only [ha]
      rw [if_pos ⟨trivial, hc⟩]
    · cases e
  · cases e
theorem zz_J.ab (pc' : Nat) {a pc0 na nb : Nat} {nn : Int} {i : Int32} {w : Int32} (hrow : zz_row M pc = some (pc0, .baload, 1, na, nb, nn)) (e : hab X h a i = some w) (hp : pc + 1 = pc') (kk : zz_J P tf fd X d M pc' lv (.int w :: st) h Q) : zz_J P tf fd X d M pc lv (.int i :: .ref a :: st) h Q := by
  subst hp
  refine zz_J.i hrow rfl ?_ kk
  show zz_bald X 1 pc lv (.int i :: .ref a :: st) h = _
  unfold hab at e
  unfold zz_bald
  split at e
  · rename_i ha
    split at e
    · rename_i hc
      cases e
      simp only [ha]
      rw [if_pos ⟨trivial, hc⟩]
    · cases e
  · cases e
theorem zz_J.al (pc' : Nat) {a pc0 na nb : Nat} {nn : Int} {i : Int32} {w : Int64} (hrow : zz_row M pc = some (pc0, .laload, 1, na, nb, nn)) (e : hal X h a i = some w) (hp : pc + 1 = pc') (kk : zz_J P tf fd X d M pc' lv (.long w :: st) h Q) : zz_J P tf fd X d M pc lv (.int i :: .ref a :: st) h Q := by
  subst hp
  refine zz_J.i hrow rfl ?_ kk
  show zz_lald X 1 pc lv (.int i :: .ref a :: st) h = _
  unfold hal at e
  unfold zz_lald
  split at e
  · rename_i ha
    split at e
    · rename_i hc
      cases e
      simp only [ha]
      rw [if_pos ⟨trivial, hc⟩]
    · cases e
  · cases e
theorem zz_J.aq (pc' : Nat) {a pc0 na nb : Nat} {nn : Int} {i : Int32} {w : Option Nat} (hrow : zz_row M pc = some (pc0, .aaload, 1, na, nb, nn)) (e : haq X h a i = some w) (hp : pc + 1 = pc') (kk : zz_J P tf fd X d M pc' lv (zz_rv w :: st) h Q) : zz_J P tf fd X d M pc lv (.int i :: .ref a :: st) h Q := by
  subst hp
  refine zz_J.i hrow rfl ?_ kk
  show zz_aald X 1 pc lv (.int i :: .ref a :: st) h = _
  unfold haq at e
  unfold zz_aald
  split at e
  · rename_i ha
    split at e
    · rename_i hc
      cases e
      simp only [ha]
      rw [if_pos ⟨trivial, hc⟩]
    · cases e
  · cases e
theorem har_ok {a : Nat} {i : Int32} {w : Nat} (e : har X h a i = some w) : haq X h a i = some (some w) := by
  unfold har at e
  split at e
  · rename_i x hx
    cases e
    exact hx
  · cases e
theorem zz_J.ar (pc' : Nat) {a pc0 na nb : Nat} {nn : Int} {i : Int32} {w : Nat} (hrow : zz_row M pc = some (pc0, .aaload, 1, na, nb, nn)) (e : har X h a i = some w) (hp : pc + 1 = pc') (kk : zz_J P tf fd X d M pc' lv (.ref w :: st) h Q) : zz_J P tf fd X d M pc lv (.int i :: .ref a :: st) h Q := zz_J.aq pc' hrow (har_ok e) hp kk
theorem zz_J.ln (pc' : Nat) {a pc0 na nb : Nat} {nn : Int} {w : Int32} (hrow : zz_row M pc = some (pc0, .arraylength, 1, na, nb, nn)) (e : hlen X h a = some w) (hp : pc + 1 = pc') (kk : zz_J P tf fd X d M pc' lv (.int w :: st) h Q) : zz_J P tf fd X d M pc lv (.ref a :: st) h Q := by
  subst hp
  refine zz_J.i hrow rfl ?_ kk
  show zz_alen X 1 pc lv (.ref a :: st) h = _
  unfold hlen at e
  unfold zz_alen
  split at e
  · rename_i ha
    split at e
    · rename_i hc
      cases e
      simp only [ha]
      rw [if_pos ⟨trivial, hc⟩]
    · cases e
  · cases e
theorem zz_J.si (pc' : Nat) {a pc0 na nb : Nat} {nn : Int} {i : Int32} {x : Int32} {h1 : zz_H} (hrow : zz_row M pc = some (pc0, .iastore, 1, na, nb, nn)) (e : hsi h a i x = some h1) (hp : pc + 1 = pc') (kk : zz_J P tf fd X d M pc' lv st h1 Q) : zz_J P tf fd X d M pc lv (.int x :: .int i :: .ref a :: st) h Q := by
  subst hp
  refine zz_J.i hrow rfl ?_ kk
  show zz_iast 1 pc lv (.int x :: .int i :: .ref a :: st) h = _
  unfold hsi at e
  unfold zz_iast
  split at e
  · rename_i ha
    split at e
    · rename_i hc
      cases e
      simp only [ha]
      rw [if_pos ⟨trivial, hc⟩]
    · cases e
  · cases e
theorem zz_J.sb (pc' : Nat) {a pc0 na nb : Nat} {nn : Int} {i : Int32} {x : Int32} {h1 : zz_H} (hrow : zz_row M pc = some (pc0, .bastore, 1, na, nb, nn)) (e : hsb h a i x = some h1) (hp : pc + 1 = pc') (kk : zz_J P tf fd X d M pc' lv st h1 Q) : zz_J P tf fd X d M pc lv (.int x :: .int i :: .ref a :: st) h Q := by
  subst hp
  refine zz_J.i hrow rfl ?_ kk
  show zz_bast 1 pc lv (.int x :: .int i :: .ref a :: st) h = _
  unfold hsb at e
  unfold zz_bast
  split at e
  · rename_i ha
    split at e
    · rename_i hc
      cases e
      simp only [ha]
      rw [if_pos ⟨trivial, hc⟩]
    · cases e
  · cases e
theorem zz_J.sl (pc' : Nat) {a pc0 na nb : Nat} {nn : Int} {i : Int32} {x : Int64} {h1 : zz_H} (hrow : zz_row M pc = some (pc0, .lastore, 1, na, nb, nn)) (e : hsl h a i x = some h1) (hp : pc + 1 = pc') (kk : zz_J P tf fd X d M pc' lv st h1 Q) : zz_J P tf fd X d M pc lv (.long x :: .int i :: .ref a :: st) h Q := by
  subst hp
  refine zz_J.i hrow rfl ?_ kk
  show zz_last 1 pc lv (.long x :: .int i :: .ref a :: st) h = _
  unfold hsl at e
  unfold zz_last
  split at e
  · rename_i ha
    split at e
    · rename_i hc
      cases e
      simp only [ha]
      rw [if_pos ⟨trivial, hc⟩]
    · cases e
  · cases e
theorem zz_J.sr (pc' : Nat) {a v pc0 na nb : Nat} {nn : Int} {i : Int32} {h1 : zz_H} (hrow : zz_row M pc = some (pc0, .aastore, 1, na, nb, nn)) (e : hst nn h a i v = some h1) (hp : pc + 1 = pc') (kk : zz_J P tf fd X d M pc' lv st h1 Q) : zz_J P tf fd X d M pc lv (.ref v :: .int i :: .ref a :: st) h Q := by
  subst hp
  refine zz_J.i hrow rfl ?_ kk
  show (if nn = 1 then zz_aast2 1 pc lv (.ref v :: .int i :: .ref a :: st) h else zz_aast 1 pc lv (.ref v :: .int i :: .ref a :: st) h) = _
  unfold hst at e
  by_cases h1n : nn = 1
  · rw [if_pos h1n] at e ⊢
    unfold zz_aast2 at e ⊢
    dsimp only at e ⊢
    split at e
    · rename_i hq
      split at hq
      · rename_i ha hv
        split at hq
        · rename_i hc
          cases hq
          cases e
          simp only [ha, hv]
          rw [if_pos ⟨trivial, hc.2⟩]
        · cases hq
      · cases hq
    · cases e
  · rw [if_neg h1n] at e ⊢
    unfold zz_aast at e ⊢
    dsimp only at e ⊢
    split at e
    · rename_i hq
      split at hq
      · rename_i ha hv
        split at hq
        · rename_i hc
          cases hq
          cases e
          simp only [ha, hv]
          rw [if_pos ⟨trivial, hc.2⟩]
        · cases hq
      · cases hq
    · cases e
theorem zz_J.nw (pc' : Nat) {cp pc0 nb ci : Nat} {nn : Int} {h1 : zz_H} (hrow : zz_row M pc = some (pc0, .new cp, 3, ci, nb, nn)) (h9 : ¬ nn = -9) (e : hnw h ci = some h1) (hp : pc + 3 = pc') (kk : zz_J P tf zt_fd X d M pc' lv (.ref h.length :: st) h1 Q) : zz_J P tf zt_fd X d M pc lv st h Q := by
  subst hp
  refine zz_J.i hrow (by unfold zz_cls; dsimp only; rw [if_neg h9]) ?_ kk
  show (if nn = -9 then none else zz_new (zt_fd ci) ci 3 pc lv st h) = _
  rw [if_neg h9]
  unfold hnw at e
  unfold zz_new
  split at e
  · rename_i hc
    cases e
    rw [if_pos ⟨rfl, hc⟩]
  · cases e
theorem zz_J.na (pc' : Nat) {pc0 na nb : Nat} {nn : Int} {ty : ArrayType} {n : Int32} {h1 : zz_H} (hrow : zz_row M pc = some (pc0, .newarray ty, 2, na, nb, nn)) (e : hna h ty n = some h1) (hp : pc + 2 = pc') (kk : zz_J P tf fd X d M pc' lv (.ref h.length :: st) h1 Q) : zz_J P tf fd X d M pc lv (.int n :: st) h Q := by
  subst hp
  refine zz_J.i hrow rfl ?_ kk
  show zz_newa ty 2 pc lv (.int n :: st) h = _
  unfold hna at e
  unfold zz_newa at e ⊢
  dsimp only at e ⊢
  split at e
  · rename_i hq
    split at hq
    · rename_i ha
      split at hq
      · rename_i hc
        cases hq
        cases e
        simp only [ha]
        rw [if_pos ⟨trivial, hc.2⟩]
      · cases hq
    · cases hq
  · cases e
theorem zz_J.mn (pc' : Nat) {cp dm pc0 na nb : Nat} {nn : Int} {n k : Int32} {h1 : zz_H} (hrow : zz_row M pc = some (pc0, .multianewarray cp dm, 4, na, nb, nn)) (e : hmn h n k = some h1) (hp : pc + 4 = pc') (kk : zz_J P tf fd X d M pc' lv (.ref h.length :: st) h1 Q) : zz_J P tf fd X d M pc lv (.int k :: .int n :: st) h Q := by
  subst hp
  refine zz_J.i hrow rfl ?_ kk
  show zz_mna 4 pc lv (.int k :: .int n :: st) h = _
  unfold hmn at e
  unfold zz_mna at e ⊢
  dsimp only at e ⊢
  split at e
  · rename_i hq
    split at hq
    · rename_i hc
      cases hq
      cases e
      rw [if_pos hc]
    · cases hq
  · cases e
theorem zz_J.cp (pc' : Nat) {cp a0 a pc0 na nb : Nat} {sp dp n : Int32} {h1 : zz_H} (hrow : zz_row M pc = some (pc0, .invokestatic cp, 3, na, nb, -1)) (e : hcp h a0 sp a dp n = some h1) (hcat : zz_cats st ≤ 8) (hp : pc + 3 = pc') (kk : zz_J P tf fd X (d + 1) M pc' lv st h1 Q) : zz_J P tf fd X (d + 1) M pc lv (.int n :: .int dp :: .ref a :: .int sp :: .ref a0 :: st) h Q := by
  refine zz_J.spec pc' hrow rfl (show (-1 : Int) < 0 by decide) ?_ rfl hp kk
  unfold zz_spec
  dsimp only
  rw [if_pos rfl]
  unfold hcp at e
  unfold zz_acp at e ⊢
  dsimp only at e ⊢
  split at e
  · rename_i hq
    split at hq
    · rename_i ha0 ha
      split at hq
      · rename_i hc
        cases hq
        cases e
        try simp only [ha0, ha]
        rw [if_pos ⟨hcat, hc.2⟩]
      · cases hq
    · rename_i ha0 ha
      split at hq
      · rename_i hc
        cases hq
        cases e
        try simp only [ha0, ha]
        rw [if_pos ⟨hcat, hc.2⟩]
      · cases hq
    · rename_i ha0 ha
      split at hq
      · rename_i hc
        cases hq
        cases e
        try simp only [ha0, ha]
        rw [if_pos ⟨hcat, hc.2⟩]
      · cases hq
    · cases hq
  · cases e
theorem zz_J.cv (pc' : Nat) {as : List Value} {b n cp : Nat} {M' : zz_M} {pc0 na : Nat} {nn : Int} (hrow : zz_row M pc = some (pc0, .invokevirtual cp, 3, na, n, nn)) (hst : st.drop n = .ref b :: as) (hb : hcl X h b nn = true) (hnn : ¬ nn < 0) (hn : n ≤ st.length) (hcat : zz_cats as ≤ 8) (hM : P na = some M') (hl : zz_words (.ref b :: (st.take n).reverse) ≤ M'.1.2.2.1) (hp : pc + 3 = pc')
    (k : zz_J P tf fd X d M' 0 (lv_args 0 (.ref b :: (st.take n).reverse)) [] h (zz_after nn Q (fun v h' => zz_J P tf fd X (d + 1) M pc' lv (v.toList ++ as) h' Q))) : zz_J P tf fd X (d + 1) M pc lv st h Q := by
  refine zz_J.cl pc' hrow rfl hnn ?_ hM ⟨rfl, hl⟩ hp k
  show zz_site X (.invokevirtual cp) n nn st h = _
  unfold hcl at hb
  unfold zz_site
  simp only [hst]
  split at hb
  · rename_i ci fs ha
    have hb := of_decide_eq_true hb
    simp only [ha]
    rw [if_pos ⟨hn, hcat, hb⟩]
  · cases hb
end ZG
