/-! ===== PURE: same (the reference's): plain THINGS, and PACKS by the stack ===== -/
theorem ofNat_inj {a b : Nat} (ha : a < 2147483648) (hb : b < 2147483648) (h : Int32.ofNat a = Int32.ofNat b) : a = b := (i32eq ha hb).mp h
theorem serRow_pre {r r' l l' : List Int32} (h : r.length ≤ 64) (h' : r'.length ≤ 64) (e : serRow r ++ l = serRow r' ++ l') : r = r' ∧ l = l' := by
  obtain ⟨e1, e2⟩ := List.cons.inj (show Int32.ofNat r.length :: (r ++ l) = Int32.ofNat r'.length :: (r' ++ l') from e)
  have hl := ofNat_inj (by omega) (by omega) e1
  exact List.append_inj e2 hl
theorem flat_pre {α : Type} {g : α → List Int32} {p : α → Prop} (hg : ∀ x y l l', p x → p y → g x ++ l = g y ++ l' → g x = g y ∧ l = l') : ∀ (q q' : List α) (l l' : List Int32), q.length = q'.length → (∀ x ∈ q, p x) → (∀ x ∈ q', p x) → q.flatMap g ++ l = q'.flatMap g ++ l' → q.map g = q'.map g ∧ l = l'
  | [], [], _, _, _, _, _, e => ⟨rfl, e⟩
  | a :: q, b :: q', l, l', hl, hp, hp', e => by
    rw [List.flatMap_cons, List.flatMap_cons, List.append_assoc, List.append_assoc] at e
    obtain ⟨e1, e2⟩ := hg a b _ _ (hp a List.mem_cons_self) (hp' b List.mem_cons_self) e
    obtain ⟨e3, e4⟩ := flat_pre hg q q' l l' (Nat.succ.inj hl) (fun x hx => hp x (List.mem_cons_of_mem _ hx)) (fun x hx => hp' x (List.mem_cons_of_mem _ hx)) e2
    exact ⟨by rw [List.map_cons, List.map_cons, e1, e3], e4⟩
theorem serRow_inj {r r' : List Int32} (h : serRow r = serRow r') : r = r' := (List.cons.inj h).2
theorem map_inj {α : Type} {g : α → List Int32} (hg : ∀ x y, g x = g y → x = y) : ∀ (q q' : List α), q.map g = q'.map g → q = q'
  | [], [], _ => rfl
  | [], _ :: _, e => by cases e
  | _ :: _, [], e => by cases e
  | a :: q, b :: q', e => by
    obtain ⟨e1, e2⟩ := List.cons.inj e
    rw [hg a b e1, map_inj hg q q' e2]
theorem tab_pre {q q' : List (List Int32)} {l l' : List Int32} (hl : q.length = q'.length) (h : ∀ r ∈ q, r.length ≤ 64) (h' : ∀ r ∈ q', r.length ≤ 64) (e : q.flatMap serRow ++ l = q'.flatMap serRow ++ l') : q = q' ∧ l = l' := by
  obtain ⟨e1, e2⟩ := flat_pre (g := serRow) (p := fun r => r.length ≤ 64) (fun x y l l' hx hy e => by
    obtain ⟨e1, e2⟩ := serRow_pre hx hy e
    exact ⟨by rw [e1], e2⟩) q q' l l' hl h h' e
  exact ⟨map_inj (fun x y => serRow_inj) q q' e1, e2⟩
theorem serP_pre {x y : Pl} {l l' : List Int32} (h : wfP x) (h' : wfP y) (e : serP x ++ l = serP y ++ l') : serP x = serP y ∧ l = l' := by
  obtain x | r | q := x <;> obtain y | r' | q' := y
  · obtain ⟨-, e2⟩ := List.cons.inj e
    obtain ⟨e3, e4⟩ := List.cons.inj e2
    exact ⟨by rw [e3], e4⟩
  · exact absurd (List.cons.inj e).1 (show ¬ (0 : Int32) = 1 by decide)
  · exact absurd (List.cons.inj e).1 (show ¬ (0 : Int32) = 2 by decide)
  · exact absurd (List.cons.inj e).1 (show ¬ (1 : Int32) = 0 by decide)
  · obtain ⟨e1, e2⟩ := serRow_pre h h' (List.cons.inj e).2
    exact ⟨by rw [e1], e2⟩
  · exact absurd (List.cons.inj e).1 (show ¬ (1 : Int32) = 2 by decide)
  · exact absurd (List.cons.inj e).1 (show ¬ (2 : Int32) = 0 by decide)
  · exact absurd (List.cons.inj e).1 (show ¬ (2 : Int32) = 1 by decide)
  · obtain ⟨h1, -, h3⟩ := (show q.length ≤ 20 ∧ _ ∧ _ from h)
    obtain ⟨k1, -, k3⟩ := (show q'.length ≤ 20 ∧ _ ∧ _ from h')
    obtain ⟨e1, e2⟩ := List.cons.inj (List.cons.inj e).2
    obtain ⟨e3, e4⟩ := tab_pre (ofNat_inj (by omega) (by omega) e1) h3 k3 e2
    exact ⟨by rw [e3], e4⟩
theorem ser_pre : ∀ (n : Nat) (x y : Th n) (l l' : List Int32), wfT n x → wfT n y → ser n x ++ l = ser n y ++ l' → ser n x = ser n y ∧ l = l'
  | 0, x, y, l, l', h, h', e => serP_pre h h' e
  | n + 1, x, y, l, l', h, h', e => by
    obtain x | q := x <;> obtain y | q' := y
    · exact serP_pre h h' e
    · obtain x | r | w := x
      · exact absurd (List.cons.inj e).1 (show ¬ (0 : Int32) = 3 by decide)
      · exact absurd (List.cons.inj e).1 (show ¬ (1 : Int32) = 3 by decide)
      · exact absurd (List.cons.inj e).1 (show ¬ (2 : Int32) = 3 by decide)
    · obtain x | r | w := y
      · exact absurd (List.cons.inj e).1 (show ¬ (3 : Int32) = 0 by decide)
      · exact absurd (List.cons.inj e).1 (show ¬ (3 : Int32) = 1 by decide)
      · exact absurd (List.cons.inj e).1 (show ¬ (3 : Int32) = 2 by decide)
    · obtain ⟨h1, -, h3⟩ := (show q.length ≤ 20 ∧ _ ∧ _ from h)
      obtain ⟨k1, -, k3⟩ := (show q'.length ≤ 20 ∧ _ ∧ _ from h')
      obtain ⟨e1, e2⟩ := List.cons.inj (List.cons.inj e).2
      have hl := ofNat_inj (by omega) (by omega) e1
      obtain ⟨e3, e4⟩ := flat_pre (g := ser n) (p := wfT n) (fun x y l l' => ser_pre n x y l l') q q' l l' hl h3 k3 e2
      refine ⟨?_, e4⟩
      show (3 : Int32) :: Int32.ofNat q.length :: q.flatMap (ser n) = 3 :: Int32.ofNat q'.length :: q'.flatMap (ser n)
      rw [hl, List.flatMap_def, List.flatMap_def, e3]
/-- what a THING's own view must keep -/
def wfV : Vw → Prop
  | .inl _ => True
  | .inr (.inl r) => r.length ≤ 64
  | .inr (.inr (.inl q)) => q.length ≤ 20 ∧ (q.map List.length).sum ≤ 200 ∧ ∀ r ∈ q, r.length ≤ 64
  | .inr (.inr (.inr l)) => l.2.length ≤ 20 ∧ 1 + (l.2.map (bulk l.1)).sum ≤ 600 ∧ ∀ y ∈ l.2, wfT l.1 y
theorem vw_wf : ∀ x : Nod, wfT x.1 x.2 → wfV (vw x)
  | ⟨0, p⟩ => fun h => by obtain x | r | q := p <;> exact h
  | ⟨n + 1, x⟩ => fun h => by
    obtain p | l := x
    · obtain x | r | q := p <;> exact h
    · exact h
section SZ
variable {N : Nat} {R R' : Nat → Prop} {s : mS}
theorem ite_c {c d : Prop} [Decidable c] [Decidable d] {a b : Int32} (h : c ↔ d) : (if c then a else b) = if d then a else b := by
  by_cases k : c
  · rw [if_pos k, if_pos (h.mp k)]
  · rw [if_neg k, if_neg (fun q => k (h.mpr q))]
/-- rows of two TABLES -/
theorem r_plT {a b : Nat} {q q' : List (List Int32)} (hN : 170000 ≤ N) (hR : ∀ y, R y → y < 166300) (hR' : ∀ y, R' y → y < 166300) (H : Wy (s.2.2.1 47) a (LayN (s.2.2.1 47) R) (vT q)) (ha : a + wV wn (vT q) ≤ 166300) (H' : Wy (s.2.2.1 47) b (LayN (s.2.2.1 47) R') (vT q')) (hb : b + wV wn (vT q') ≤ 166300) (hl : q.length = q'.length) : ∀ (d i f : Nat), i + d = q.length → mf_345_L1 N (f + (d + 1)) 0 (Int32.ofNat a) (Int32.ofNat b) 1 (Int32.ofNat i) s = some (s, some (.int (if q.drop i = q'.drop i then 1 else 0))) := by
  have hw : a + (2 + q.length) ≤ 166300 := ha
  have hw' : b + (2 + q'.length) ≤ 166300 := hb
  have z0 : ∀ f x1 x2 x4, mf_345_L1 N (f + 1) 0 x1 x2 0 x4 s = some (s, some (.int 0)) := fun f x1 x2 x4 => by
    show mf_345_39 N (mf_345_L1 N f) x1 x2 0 x4 s = _
    repeat ((first | unfold mf_345 | unfold mf_345_0 | unfold mf_345_10 | unfold mf_345_16 | unfold mf_345_17 | unfold mf_345_22 | unfold mf_345_27 | unfold mf_345_30 | unfold mf_345_34 | unfold mf_345_35 | unfold mf_345_39 | unfold mf_345_43 | unfold mf_345_50 | unfold mf_345_53 | unfold mf_345_61 | unfold mf_345_68 | unfold mf_345_71 | unfold mf_345_78); try simp (disch := omega) only [ev_S, ev_P, ↓reduceIte, Nat.reduceEqDiff, Nat.reduceLeDiff, Nat.reduceAdd, Nat.reduceMul, Nat.reduceSub, reduceCtorEq, l32_0, l32_1, l32_2, l32_3, l32_4, l32_47, l32_166300])
  have hz := r_size (N := N) H ha
  intro d
  induction d with
  | zero =>
    intro i f hi
    have hi : i = q.length := hi
    subst hi
    rw [List.drop_length, hl, List.drop_length, if_pos rfl]
    show mf_345_39 N (mf_345_L1 N f) (Int32.ofNat a) (Int32.ofNat b) 1 (Int32.ofNat q'.length) s = _
    repeat ((first | unfold mf_345 | unfold mf_345_0 | unfold mf_345_10 | unfold mf_345_16 | unfold mf_345_17 | unfold mf_345_22 | unfold mf_345_27 | unfold mf_345_30 | unfold mf_345_34 | unfold mf_345_35 | unfold mf_345_39 | unfold mf_345_43 | unfold mf_345_50 | unfold mf_345_53 | unfold mf_345_61 | unfold mf_345_68 | unfold mf_345_71 | unfold mf_345_78); try simp (disch := omega) only [ev_S, ev_P, ↓reduceIte, Nat.reduceEqDiff, Nat.reduceLeDiff, Nat.reduceAdd, Nat.reduceMul, Nat.reduceSub, reduceCtorEq, l32_0, l32_1, l32_2, l32_3, l32_4, l32_47, l32_166300, hz, szV])
  | succ d ih =>
    intro i f hi
    have hi' : i < q.length := by omega
    obtain ⟨c, g1, g2⟩ := r_partT (N := N) H ha hi'
    obtain ⟨c', g1', g2'⟩ := r_partT (N := N) H' hb (i := i) (by omega)
    obtain ⟨L1, L2⟩ := LayN_iff.mp g2
    obtain ⟨L1', L2'⟩ := LayN_iff.mp g2'
    have L2 : Wy (s.2.2.1 47) c (LayN (s.2.2.1 47) R) (vR q[i]) := L2
    have L2' : Wy (s.2.2.1 47) c' (LayN (s.2.2.1 47) R') (vR q'[i]) := L2'
    have hc : c + wV wn (vR q[i]) ≤ 166300 := by
      have := hR _ (L1 (c + wV wn (vR q[i]) - 1) (by have := L2.kd.2.2; omega) (by have := L2.kd.2.2; show _ < c + wV wn (vR q[i]); omega))
      omega
    have hc' : c' + wV wn (vR (q'[i]'(by omega))) ≤ 166300 := by
      have := hR' _ (L1' (c' + wV wn (vR (q'[i]'(by omega))) - 1) (by have := L2'.kd.2.2; omega) (by have := L2'.kd.2.2; show _ < c' + wV wn (vR (q'[i]'(by omega))); omega))
      omega
    have es := r_sameRows hN L2 hc L2' hc'
    rw [List.drop_eq_getElem_cons hi', List.drop_eq_getElem_cons (show i < q'.length by omega)]
    show mf_345_39 N (mf_345_L1 N (f + (d + 1))) (Int32.ofNat a) (Int32.ofNat b) 1 (Int32.ofNat i) s = _
    by_cases e : q[i] = q'[i]'(by omega)
    · rw [if_pos e] at es
      have ih := ih (i + 1) f (by omega)
      repeat ((first | unfold mf_345 | unfold mf_345_0 | unfold mf_345_10 | unfold mf_345_16 | unfold mf_345_17 | unfold mf_345_22 | unfold mf_345_27 | unfold mf_345_30 | unfold mf_345_34 | unfold mf_345_35 | unfold mf_345_39 | unfold mf_345_43 | unfold mf_345_50 | unfold mf_345_53 | unfold mf_345_61 | unfold mf_345_68 | unfold mf_345_71 | unfold mf_345_78); try simp (disch := omega) only [ev_S, ev_P, ↓reduceIte, Nat.reduceEqDiff, Nat.reduceLeDiff, Nat.reduceAdd, Nat.reduceMul, Nat.reduceSub, reduceCtorEq, l32_0, l32_1, l32_2, l32_3, l32_4, l32_47, l32_166300, hz, szV, g1, g1', es])
      have e2 : (1 : Int32) = Int32.ofNat 1 := rfl
      rw [← e2, ih, e]
      by_cases c : q.drop (i + 1) = q'.drop (i + 1)
      · rw [if_pos c, if_pos (by rw [c])]
      · rw [if_neg c, if_neg (fun q => c (List.cons.inj q).2)]
        rfl
    · rw [if_neg e] at es
      repeat ((first | unfold mf_345 | unfold mf_345_0 | unfold mf_345_10 | unfold mf_345_16 | unfold mf_345_17 | unfold mf_345_22 | unfold mf_345_27 | unfold mf_345_30 | unfold mf_345_34 | unfold mf_345_35 | unfold mf_345_39 | unfold mf_345_43 | unfold mf_345_50 | unfold mf_345_53 | unfold mf_345_61 | unfold mf_345_68 | unfold mf_345_71 | unfold mf_345_78); try simp (disch := omega) only [ev_S, ev_P, ↓reduceIte, Nat.reduceEqDiff, Nat.reduceLeDiff, Nat.reduceAdd, Nat.reduceMul, Nat.reduceSub, reduceCtorEq, l32_0, l32_1, l32_2, l32_3, l32_4, l32_47, l32_166300, hz, szV, g1, g1', es])
      rw [if_neg (fun q => e (List.cons.inj q).1)]
      exact z0 (f + d) _ _ _
/-- two plain THINGS of one kind -/
theorem r_plainSame {a b : Nat} {v v' : Vw} (hN : 170000 ≤ N) (hR : ∀ y, R y → y < 166300) (hR' : ∀ y, R' y → y < 166300) (H : Wy (s.2.2.1 47) a (LayN (s.2.2.1 47) R) v) (ha : a + wV wn v ≤ 166300) (H' : Wy (s.2.2.1 47) b (LayN (s.2.2.1 47) R') v') (hb : b + wV wn v' ≤ 166300) (hk : kdV v = kdV v') (h3 : ¬ kdV v = 3) (hw : wfV v) (hw' : wfV v') : mf_345 N (Int32.ofNat a) (Int32.ofNat b) s = some (s, some (.int (if serV v = serV v' then 1 else 0))) := by
  have ka := H.kd
  have kb := H'.kd
  obtain z | r | q | l := v
  · exact H.elim
  · obtain z | r' | q' | l' := v'
    · exact H'.elim
    · have es := r_sameRows hN H ha H' hb
      have e1 : s.2.2.1 47 a = 1 := ka.1
      rw [show (if serV (vR r) = serV (vR r') then (1 : Int32) else 0) = if r = r' then 1 else 0 from ite_c ⟨fun e => (serRow_pre (l := []) (l' := []) hw hw' (by rw [List.append_nil, List.append_nil]; exact (List.cons.inj e).2)).1, fun e => by rw [e]⟩]
      by_cases e : r = r'
      · rw [if_pos e] at es ⊢
        repeat ((first | unfold mf_345 | unfold mf_345_0 | unfold mf_345_10 | unfold mf_345_16 | unfold mf_345_17 | unfold mf_345_22 | unfold mf_345_27 | unfold mf_345_30 | unfold mf_345_34 | unfold mf_345_35 | unfold mf_345_39 | unfold mf_345_43 | unfold mf_345_50 | unfold mf_345_53 | unfold mf_345_61 | unfold mf_345_68 | unfold mf_345_71 | unfold mf_345_78); try simp (disch := omega) only [ev_S, ev_P, ↓reduceIte, Nat.reduceEqDiff, Nat.reduceLeDiff, Nat.reduceAdd, Nat.reduceMul, Nat.reduceSub, reduceCtorEq, l32_0, l32_1, l32_2, l32_3, l32_4, l32_47, l32_166300, e1, es])
      · rw [if_neg e] at es ⊢
        repeat ((first | unfold mf_345 | unfold mf_345_0 | unfold mf_345_10 | unfold mf_345_16 | unfold mf_345_17 | unfold mf_345_22 | unfold mf_345_27 | unfold mf_345_30 | unfold mf_345_34 | unfold mf_345_35 | unfold mf_345_39 | unfold mf_345_43 | unfold mf_345_50 | unfold mf_345_53 | unfold mf_345_61 | unfold mf_345_68 | unfold mf_345_71 | unfold mf_345_78); try simp (disch := omega) only [ev_S, ev_P, ↓reduceIte, Nat.reduceEqDiff, Nat.reduceLeDiff, Nat.reduceAdd, Nat.reduceMul, Nat.reduceSub, reduceCtorEq, l32_0, l32_1, l32_2, l32_3, l32_4, l32_47, l32_166300, e1, es])
    · exact absurd hk (show ¬ (1 : Int32) = 2 by decide)
    · exact absurd hk (show ¬ (1 : Int32) = 3 by decide)
  · obtain z | r' | q' | l' := v'
    · exact H'.elim
    · exact absurd hk (show ¬ (2 : Int32) = 1 by decide)
    · have e1 : s.2.2.1 47 a = 2 := ka.1
      have hz := r_size (N := N) H ha
      have hz' := r_size (N := N) H' hb
      have wa : a + (2 + q.length) ≤ 166300 := ha
      have wb : b + (2 + q'.length) ≤ 166300 := hb
      rw [show (if serV (vT q) = serV (vT q') then (1 : Int32) else 0) = if q = q' then 1 else 0 from ite_c ⟨fun e => by
        obtain ⟨e1, e2⟩ := List.cons.inj (List.cons.inj e).2
        exact (tab_pre (l := []) (l' := []) (ofNat_inj (by have := hw.1; omega) (by have := hw'.1; omega) e1) hw.2.2 hw'.2.2 (by rw [List.append_nil, List.append_nil]; exact e2)).1, fun e => by rw [e]⟩]
      by_cases c : q.length = q'.length
      · have e := r_plT (N := N) hN hR hR' H ha H' hb c q.length 0 (N - (q.length + 1)) (Nat.zero_add _)
        rw [show N - (q.length + 1) + (q.length + 1) = N by omega, List.drop_zero, List.drop_zero] at e
        repeat ((first | unfold mf_345 | unfold mf_345_0 | unfold mf_345_10 | unfold mf_345_16 | unfold mf_345_17 | unfold mf_345_22 | unfold mf_345_27 | unfold mf_345_30 | unfold mf_345_34 | unfold mf_345_35 | unfold mf_345_39 | unfold mf_345_43 | unfold mf_345_50 | unfold mf_345_53 | unfold mf_345_61 | unfold mf_345_68 | unfold mf_345_71 | unfold mf_345_78); try simp (disch := omega) only [ev_S, ev_P, ↓reduceIte, Nat.reduceEqDiff, Nat.reduceLeDiff, Nat.reduceAdd, Nat.reduceMul, Nat.reduceSub, reduceCtorEq, l32_0, l32_1, l32_2, l32_3, l32_4, l32_47, l32_166300, e1, hz, hz', szV])
        exact e
      · rw [if_neg (fun q => c (by rw [q]))]
        repeat ((first | unfold mf_345 | unfold mf_345_0 | unfold mf_345_10 | unfold mf_345_16 | unfold mf_345_17 | unfold mf_345_22 | unfold mf_345_27 | unfold mf_345_30 | unfold mf_345_34 | unfold mf_345_35 | unfold mf_345_39 | unfold mf_345_43 | unfold mf_345_50 | unfold mf_345_53 | unfold mf_345_61 | unfold mf_345_68 | unfold mf_345_71 | unfold mf_345_78); try simp (disch := omega) only [ev_S, ev_P, ↓reduceIte, Nat.reduceEqDiff, Nat.reduceLeDiff, Nat.reduceAdd, Nat.reduceMul, Nat.reduceSub, reduceCtorEq, l32_0, l32_1, l32_2, l32_3, l32_4, l32_47, l32_166300, e1, hz, hz', szV])
        have e2 : N = (N - 1) + 1 := by omega
        generalize N - 1 = f at e2
        rw [show mf_345_L1 N N = mf_345_L1 N (f + 1) from congrArg _ e2]
        show mf_345_39 N (mf_345_L1 N f) (Int32.ofNat a) (Int32.ofNat b) 0 0 s = _
        repeat ((first | unfold mf_345 | unfold mf_345_0 | unfold mf_345_10 | unfold mf_345_16 | unfold mf_345_17 | unfold mf_345_22 | unfold mf_345_27 | unfold mf_345_30 | unfold mf_345_34 | unfold mf_345_35 | unfold mf_345_39 | unfold mf_345_43 | unfold mf_345_50 | unfold mf_345_53 | unfold mf_345_61 | unfold mf_345_68 | unfold mf_345_71 | unfold mf_345_78); try simp (disch := omega) only [ev_S, ev_P, ↓reduceIte, Nat.reduceEqDiff, Nat.reduceLeDiff, Nat.reduceAdd, Nat.reduceMul, Nat.reduceSub, reduceCtorEq, l32_0, l32_1, l32_2, l32_3, l32_4, l32_47, l32_166300])
    · exact absurd hk (show ¬ (2 : Int32) = 3 by decide)
  · exact absurd rfl h3
end SZ
