/-! ===== rules for the machine in little ===== -/
section ZR
variable {P : Nat → Option zz_M} {tf : Nat → Nat → FieldType} {fd : Nat → List Value} {X : Nat → Option zz_C}
theorem zz_run_up : ∀ (n d : Nat) (M : zz_M) (pc : Nat) (lv : List (Nat × Value)) (st : List Value) (h : zz_H) (q : zz_O × zz_H), zz_run P tf fd X n d M pc lv st h = some q → zz_run P tf fd X (n + 1) d M pc lv st h = some q := by
  intro n
  induction n with
  | zero => intro d M pc lv st h q hr; cases hr
  | succ n ih =>
    intro d M pc lv st h q hr
    unfold zz_run at hr
    rw [zz_run]
    split at hr
    · cases hr
    · rename_i r hrow
      split at hr
      · rename_i hc
        try simp only [hc]
        split at hr
        · rename_i f' h' hs
          try simp only [hs]
          exact ih _ _ _ _ _ _ _ hr
        · cases hr
      · rename_i hc
        try simp only [hc]
        exact hr
      · rename_i hc
        try simp only [hc]
        exact hr
      · rename_i h0 h1 h3
        split at hr
        · cases hr
        · rename_i d'
          split at hr
          · rename_i hnn
            try rw [if_pos hnn]
            split at hr
            · rename_i st' h' hs
              try simp only [hs]
              split at hr
              · rename_i hln
                try rw [if_pos hln]
                exact ih _ _ _ _ _ _ _ hr
              · cases hr
            · cases hr
          · rename_i hnn
            try rw [if_neg hnn]
            split at hr
            · cases hr
            · rename_i as rest hs
              try simp only [hs]
              split at hr
              · cases hr
              · rename_i M' hM
                try simp only [hM]
                split at hr
                · rename_i hlw
                  try rw [if_pos hlw]
                  split at hr
                  · cases hr
                  · rename_i v1 h1' hc1
                    simp only [ih _ _ _ _ _ _ _ hc1]
                    exact ih _ _ _ _ _ _ _ hr
                  · rename_i q1 h1' hc1
                    simp only [ih _ _ _ _ _ _ _ hc1]
                    exact hr
                · cases hr
theorem zz_run_add {n d : Nat} {M : zz_M} {pc : Nat} {lv : List (Nat × Value)} {st : List Value} {h : zz_H} {q : zz_O × zz_H} (hr : zz_run P tf fd X n d M pc lv st h = some q) (k : Nat) : zz_run P tf fd X (n + k) d M pc lv st h = some q := by
  induction k with
  | zero => exact hr
  | succ k ih => exact zz_run_up _ _ _ _ _ _ _ _ ih
/-- a run that comes to its end, with Q -/
def zz_E (P : Nat → Option zz_M) (tf : Nat → Nat → FieldType) (fd : Nat → List Value) (X : Nat → Option zz_C) (d : Nat) (M : zz_M) (pc : Nat) (lv : List (Nat × Value)) (st : List Value) (h : zz_H) (Q : Option Value → zz_H → Prop) : Prop := ∃ (n : Nat) (v : Option Value) (hf : zz_H), zz_run P tf fd X n d M pc lv st h = some (.inl v, hf) ∧ Q v hf
variable {d : Nat} {M : zz_M} {pc : Nat} {lv : List (Nat × Value)} {st : List Value} {h : zz_H} {Q : Option Value → zz_H → Prop} {r : zz_N}
theorem zz_E.mono {Q' : Option Value → zz_H → Prop} (hE : zz_E P tf fd X d M pc lv st h Q) (hq : ∀ v hf, Q v hf → Q' v hf) : zz_E P tf fd X d M pc lv st h Q' := by
  obtain ⟨n, v, hf, h1, h2⟩ := hE
  exact ⟨n, v, hf, h1, hq _ _ h2⟩
theorem zz_E.i {pc' : Nat} {lv' : List (Nat × Value)} {st' : List Value} {h' : zz_H} (hrow : zz_row M pc = some r) (hc : zz_cls r = 0) (hs : zz_step1 tf fd X M.1.2.2.1 r pc lv st h = some ((pc', lv', st'), h')) (k : zz_E P tf fd X d M pc' lv' st' h' Q) : zz_E P tf fd X d M pc lv st h Q := by
  obtain ⟨n, v, hf, h1, h2⟩ := k
  refine ⟨n + 1, v, hf, ?_, h2⟩
  unfold zz_run
  simp only [hrow, hc, hs]
  exact h1
/-- a run that throws, with Q -/
def zz_T (P : Nat → Option zz_M) (tf : Nat → Nat → FieldType) (fd : Nat → List Value) (X : Nat → Option zz_C) (d : Nat) (M : zz_M) (pc : Nat) (lv : List (Nat × Value)) (st : List Value) (h : zz_H) (Q : Nat → zz_H → Prop) : Prop := ∃ (n q : Nat) (hf : zz_H), zz_run P tf fd X n d M pc lv st h = some (.inr q, hf) ∧ Q q hf
theorem zz_E.ret {v : Option Value} (hrow : zz_row M pc = some r) (hc : zz_cls r = 1) (hs : zz_ret M.1.2.2.2 r.2.1 r.2.2.1 st h = some (v, h)) (k : Q v h) : zz_E P tf fd X d M pc lv st h Q := by
  refine ⟨1, v, h, ?_, k⟩
  unfold zz_run
  simp only [hrow, hc, hs]
theorem zz_E.call {as rest : List Value} {M' : zz_M} (hrow : zz_row M pc = some r) (hc : zz_cls r = 2) (hnn : ¬ r.2.2.2.2.2 < 0) (hs : zz_site X r.2.1 r.2.2.2.2.1 r.2.2.2.2.2 st h = some (as, rest)) (hM : P r.2.2.2.1 = some M') (hl : r.2.2.1 = 3 ∧ zz_words as ≤ M'.1.2.2.1)
    (k : zz_E P tf fd X d M' 0 (lv_args 0 as) [] h (fun v h' => zz_E P tf fd X (d + 1) M (pc + 3) lv (v.toList ++ rest) h' Q)) : zz_E P tf fd X (d + 1) M pc lv st h Q := by
  obtain ⟨n1, v1, h1, k1, n2, v2, h2, k2, hq⟩ := k
  refine ⟨n1 + n2 + 1, v2, h2, ?_, hq⟩
  unfold zz_run
  simp only [hrow, hc]
  rw [if_neg hnn]
  simp only [hs, hM]
  rw [if_pos hl]
  simp only [zz_run_add k1 n2]
  rw [Nat.add_comm n1 n2]
  exact zz_run_add k2 n1
theorem zz_E.spec {st' : List Value} {h' : zz_H} (hrow : zz_row M pc = some r) (hc : zz_cls r = 2) (hnn : r.2.2.2.2.2 < 0) (hs : zz_spec r.2.1 r.2.2.2.2.2 st h = some (st', h')) (hl : r.2.2.1 = 3) (k : zz_E P tf fd X (d + 1) M (pc + 3) lv st' h' Q) : zz_E P tf fd X (d + 1) M pc lv st h Q := by
  obtain ⟨n, v, hf, h1, h2⟩ := k
  refine ⟨n + 1, v, hf, ?_, h2⟩
  unfold zz_run
  simp only [hrow, hc]
  rw [if_pos hnn]
  simp only [hs]
  rw [if_pos hl]
  exact h1
theorem zz_T.i {Q : Nat → zz_H → Prop} {pc' : Nat} {lv' : List (Nat × Value)} {st' : List Value} {h' : zz_H} (hrow : zz_row M pc = some r) (hc : zz_cls r = 0) (hs : zz_step1 tf fd X M.1.2.2.1 r pc lv st h = some ((pc', lv', st'), h')) (k : zz_T P tf fd X d M pc' lv' st' h' Q) : zz_T P tf fd X d M pc lv st h Q := by
  obtain ⟨n, v, hf, h1, h2⟩ := k
  refine ⟨n + 1, v, hf, ?_, h2⟩
  unfold zz_run
  simp only [hrow, hc, hs]
  exact h1
theorem zz_T.throw {Q : Nat → zz_H → Prop} (hrow : zz_row M pc = some r) (hc : zz_cls r = 3) (hd : 8 ≤ d ∧ zz_cats st ≤ 8 ∧ h.length < zz_out) (k : Q h.length (h ++ [.inr (14, [])])) : zz_T P tf fd X d M pc lv st h Q := by
  refine ⟨1, _, _, ?_, k⟩
  unfold zz_run
  simp only [hrow, hc]
  rw [if_pos hd]
theorem zz_T.call {Q : Nat → zz_H → Prop} {as rest : List Value} {M' : zz_M} (hrow : zz_row M pc = some r) (hc : zz_cls r = 2) (hnn : ¬ r.2.2.2.2.2 < 0) (hs : zz_site X r.2.1 r.2.2.2.2.1 r.2.2.2.2.2 st h = some (as, rest)) (hM : P r.2.2.2.1 = some M') (hl : r.2.2.1 = 3 ∧ zz_words as ≤ M'.1.2.2.1)
    (k : zz_E P tf fd X d M' 0 (lv_args 0 as) [] h (fun v h' => zz_T P tf fd X (d + 1) M (pc + 3) lv (v.toList ++ rest) h' Q)) : zz_T P tf fd X (d + 1) M pc lv st h Q := by
  obtain ⟨n1, v1, h1, k1, n2, v2, h2, k2, hq⟩ := k
  refine ⟨n1 + n2 + 1, v2, h2, ?_, hq⟩
  unfold zz_run
  simp only [hrow, hc]
  rw [if_neg hnn]
  simp only [hs, hM]
  rw [if_pos hl]
  simp only [zz_run_add k1 n2]
  rw [Nat.add_comm n1 n2]
  exact zz_run_add k2 n1
theorem zz_T.callT {Q : Nat → zz_H → Prop} {as rest : List Value} {M' : zz_M} (hrow : zz_row M pc = some r) (hc : zz_cls r = 2) (hn5 : r.2.2.2.2.2 = 5) (hs : zz_site X r.2.1 r.2.2.2.2.1 r.2.2.2.2.2 st h = some (as, rest)) (hM : P r.2.2.2.1 = some M') (hl : r.2.2.1 = 3 ∧ zz_words as ≤ M'.1.2.2.1)
    (k : zz_T P tf fd X d M' 0 (lv_args 0 as) [] h Q) : zz_T P tf fd X (d + 1) M pc lv st h Q := by
  obtain ⟨n1, v1, h1, k1, hq⟩ := k
  refine ⟨n1 + 1, v1, h1, ?_, hq⟩
  unfold zz_run
  simp only [hrow, hc]
  rw [if_neg (by omega)]
  simp only [hs, hM]
  rw [if_pos hl]
  simp only [k1]
  rw [if_pos hn5]
/-- thrown by the callee, caught here: the method returns -/
theorem zz_E.caught {as rest : List Value} {M' : zz_M} (hrow : zz_row M pc = some r) (hc : zz_cls r = 2) (hn5 : r.2.2.2.2.2 = 2005) (hs : zz_site X r.2.1 r.2.2.2.2.1 r.2.2.2.2.2 st h = some (as, rest)) (hM : P r.2.2.2.1 = some M') (hl : r.2.2.1 = 3 ∧ zz_words as ≤ M'.1.2.2.1)
    (k : zz_T P tf fd X d M' 0 (lv_args 0 as) [] h (fun _ h' => Q none h')) : zz_E P tf fd X (d + 1) M pc lv st h Q := by
  obtain ⟨n1, v1, h1, k1, hq⟩ := k
  refine ⟨n1 + 1, none, h1, ?_, hq⟩
  unfold zz_run
  simp only [hrow, hc]
  rw [if_neg (by omega)]
  simp only [hs, hM]
  rw [if_pos hl]
  simp only [k1]
  rw [if_neg (by omega), if_pos hn5]
end ZR
section ZRB
variable {P : Nat → Option zz_M} {tf : Nat → Nat → FieldType} {fd : Nat → List Value} {X : Nat → Option zz_C}
variable {d : Nat} {M : zz_M} {pc : Nat} {lv : List (Nat × Value)} {h : zz_H} {Q : Option Value → zz_H → Prop} {r0 : List Value}
theorem zz_E.if1 {cd : ClassFile.Cond} {off : Int} {x : Int32} {b : Bool} {pc0 na nb : Nat} {nn : Int} (hrow : zz_row M pc = some (pc0, .ifCond cd off, 3, na, nb, nn)) (hb : zz_cond cd x 0 = b) (ht : 0 ≤ (pc : Int) + off) (k : zz_E P tf fd X d M (cond b (zz_to pc off) (pc + 3)) lv r0 h Q) : zz_E P tf fd X d M pc lv (.int x :: r0) h Q := by
  refine zz_E.i hrow rfl ?_ k
  subst hb
  show zz_wh (zz_if cd off 3 pc lv (.int x :: r0)) h = _
  unfold zz_if
  simp only [if_true]
  cases hc : zz_cond cd x 0 <;> simp [zz_jump, zz_wh, ht]
theorem zz_E.if2 {cd : ClassFile.Cond} {off : Int} {x y : Int32} {b : Bool} {pc0 na nb : Nat} {nn : Int} (hrow : zz_row M pc = some (pc0, .if_icmp cd off, 3, na, nb, nn)) (hb : zz_cond cd x y = b) (ht : 0 ≤ (pc : Int) + off) (k : zz_E P tf fd X d M (cond b (zz_to pc off) (pc + 3)) lv r0 h Q) : zz_E P tf fd X d M pc lv (.int y :: .int x :: r0) h Q := by
  refine zz_E.i hrow rfl ?_ k
  subst hb
  show zz_wh (zz_icmp cd off 3 pc lv (.int y :: .int x :: r0)) h = _
  unfold zz_icmp
  simp only [if_true]
  cases hc : zz_cond cd x y <;> simp [zz_jump, zz_wh, ht]
end ZRB
/-- so many instructions, one after another -/
def zz_go (tf : Nat → Nat → FieldType) (fd : Nat → List Value) (X : Nat → Option zz_C) : Nat → zz_M → Nat → List (Nat × Value) → List Value → zz_H → Option (zz_F × zz_H)
  | 0, _, pc, lv, st, h => some ((pc, lv, st), h)
  | n + 1, M, pc, lv, st, h => match zz_row M pc with
    | none => none
    | some r => match zz_cls r with
      | 0 => match zz_step1 tf fd X M.1.2.2.1 r pc lv st h with
        | some (f', h') => zz_go tf fd X n M f'.1 f'.2.1 f'.2.2 h'
        | none => none
      | _ => none
theorem zz_E.go {P : Nat → Option zz_M} {tf : Nat → Nat → FieldType} {fd : Nat → List Value} {X : Nat → Option zz_C} {d : Nat} {M : zz_M} {Q : Option Value → zz_H → Prop} : ∀ (n : Nat) {pc : Nat} {lv : List (Nat × Value)} {st : List Value} {h : zz_H} {pc' : Nat} {lv' : List (Nat × Value)} {st' : List Value} {h' : zz_H}, zz_go tf fd X n M pc lv st h = some ((pc', lv', st'), h') → zz_E P tf fd X d M pc' lv' st' h' Q → zz_E P tf fd X d M pc lv st h Q
  | 0, _, _, _, _, _, _, _, _, hg, k => by
    cases hg
    exact k
  | n + 1, _, _, _, _, _, _, _, _, hg, k => by
    unfold zz_go at hg
    split at hg
    · cases hg
    · rename_i r hrow
      split at hg
      · rename_i hc
        split at hg
        · rename_i f1 h1 hs
          obtain ⟨pc1, lv1, st1⟩ := f1
          exact zz_E.i hrow hc hs (zz_E.go n hg k)
        · cases hg
      · cases hg
