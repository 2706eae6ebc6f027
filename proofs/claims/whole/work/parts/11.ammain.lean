section ZM
variable {l : Launch} {B : Nat} {O : Nat → Nat} {D : va_G} {cl : List vw_C} {dA : Nat → ClassId} {Ts NW : List Cond} {tf : Nat → Nat → FieldType} {fd : Nat → List Value} {nf : Nat → Nat} {X : Nat → Option zz_C} {P : Nat → Option zz_M} {hh : MethodName → List (Nat × Nat × Nat × Nat)}
/-- what is claimed of a run -/
def zz_Snd (hh : MethodName → List (Nat × Nat × Nat × Nat)) (l : Launch) (P : Nat → Option zz_M) (cl : List vw_C) (tf : Nat → Nat → FieldType) (fd : Nat → List Value) (nf : Nat → Nat) (Ts NW : List Cond) (D : va_G) (B : Nat) (O : Nat → Nat) (dA : Nat → ClassId) (X : Nat → Option zz_C) (n : Nat) : Prop := ∀ (d : Nat) (M : zz_M) (pc : Nat) (lv : List (Nat × Value)) (st : List Value) (h hf : zz_H) (v : zz_O), zz_run P tf fd X n d M pc lv st h = some (v, hf) → zz_okW hh P cl tf fd nf Ts NW M →
  ∀ (p : Program) (e : Env) (R : Room) (s : State) (m : MethodId) (args : Array Value) (below : List Frame) (meth : Method) (c : Code) (H : Heap) (locs : List Loc) (ls : Array Slot) (L0 S0 : Nat),
    p.tables.exec = Jvm.exec → c.code = M.1.2.1 → meth.sig.returnType = M.1.2.2.2 → meth.locks = false → c.maxLocals = M.1.2.2.1 → s.vm.findClass M.1.1.cls = some m.cls → (M.1.1.name = "<init>" → meth.name = "<init>") → (∀ w ∈ Ts, w.before args s = true) → va_K D cl (zz_tys dA) s → (∀ w ∈ NW, va_Nw w s) → zz_X s B O X s.heap → zz_Y B O X s s.heap → c.exceptionTable.toList = tableOf (hh M.1.1) →
    zz_R D cl B O dA s.heap locs h H → lv_has ls M.1.2.2.1 (zz_l B O lv) → L0 ≤ h.length → S0 ≤ zz_sl nf h → hf.length - L0 ≤ R.cells → zz_sl nf hf - S0 ≤ R.slots → d ≤ R.frames → 64 * d ≤ R.locals →
    W p l e R s m args below meth c H locs (h.length - L0) (zz_sl nf h - S0) (zz_fin below D cl B O dA args s (hf.length - L0) (zz_sl nf hf - S0) v hf) (F0 m pc ls (zz_s B O st))
/-- the method's table of handlers, as its word says -/
theorem zz_tab {M : zz_M} {rm : Room} {p : Program} {e : Env} {s s₁ : State} {m : MethodId} {args : Array Value} {below : List Frame} {meth : Method} {c : Code} (Bd : BodyLoose p l M.1.1 (headSpec (zz_cw hh M :: Ts) rm) M.1.2.1 M.1.2.2.1 M.1.2.2.2 e s m args below meth c s₁) : c.exceptionTable.toList = tableOf (hh M.1.1) := by
  have hw0 : (zz_cw hh M).before args s = true := atoms_spec (ws := zz_cw hh M :: Ts) Bd.pre _ List.mem_cons_self
  unfold zz_cw at hw0
  cases hq : hh M.1.1 with
  | nil =>
    rw [hq] at hw0
    obtain ⟨meth9, c9, h1, h2, -, -, -, -, h7, -⟩ := Cond.code_spec Bd.named hw0
    cases Option.some.inj (h1.symm.trans Bd.method)
    cases Option.some.inj (h2.symm.trans (Stand.of_body Bd).code)
    rw [Array.isEmpty_iff.mp h7]
    rfl
  | cons q9 l9 =>
    rw [hq] at hw0
    exact vx_table (x := M.1.1) Bd hw0
set_option maxHeartbeats 4000000 in
/-- a callee's contract out of its run -/
theorem zz_met {n : Nat} (ih : zz_Snd hh l P cl tf fd nf Ts NW D B O dA X n) {d : Nat} {M : zz_M} {as : List Value} {h h1 : zz_H} {v1 : Option Value} (hc : zz_run P tf fd X n d M 0 (lv_args 0 as) [] h = some (.inl v1, h1)) (hM : zz_okM hh P cl tf fd nf Ts NW M) (hw : zz_words as ≤ M.1.2.2.1) :
    Met l M.1.1 (zz_cw hh M :: Ts) (zz_rm d (h1.length - h.length) (zz_sl nf h1 - zz_sl nf h)) (zz_Pc D cl B O dA NW X as h) (zz_Qc D cl B O dA v1 h1) (h1.length - h.length) (zz_sl nf h1 - zz_sl nf h) (fun q => B ≤ q) := by
  have body : ∀ p e s m args below meth c s₁, BodyLoose p l M.1.1 (headSpec (zz_cw hh M :: Ts) (zz_rm d (h1.length - h.length) (zz_sl nf h1 - zz_sl nf h))) M.1.2.1 M.1.2.2.1 M.1.2.2.2 e s m args below meth c s₁ → c.maxLocals = M.1.2.2.1 → zz_Pc D cl B O dA NW X as h args s →
      W p l e (headSpec (zz_cw hh M :: Ts) (zz_rm d (h1.length - h.length) (zz_sl nf h1 - zz_sl nf h))).room s m args below meth c s.heap [] 0 0 (MQ below (zz_Qc D cl B O dA v1 h1) args s (h1.length - h.length) (zz_sl nf h1 - zz_sl nf h) (fun q => B ≤ q)) (entryFrame m args M.1.2.2.1) := by
    intro p e s m args below meth c s₁ Bd hml hv
    obtain ⟨rfl, hP, hz, hlen, hK, hN, hX, hY⟩ := hv
    have hpt := zz_tab Bd
    have hx := Bd.exec
    have hb := Bd.bytes
    have hr := Bd.returns
    have hts := atoms_spec (ws := zz_cw hh M :: Ts) Bd.pre
    have hown : s.vm.findClass M.1.1.cls = some m.cls := findClass_of_methodNamed Bd.named
    have hlk := Bd.notSynchronized
    have hnm : M.1.1.name = "<init>" → meth.name = "<init>" := fun q => (name_of_methodNamed Bd.named Bd.method).1.trans q
    have hl := lv_entry (as.map (zz_v B O)) (n := M.1.2.2.1) (by rw [zz_words_sl, zz_words_v]; exact hw)
    rw [lg_entry_eq]
    generalize (lg_sl (as.map (zz_v B O)) ++ List.replicate (M.1.2.2.1 - (lg_sl (as.map (zz_v B O))).length) Slot.unset).toArray = ls at hl ⊢
    have := ih d M 0 (lv_args 0 as) [] h h1 (.inl v1) hc hM.1 p e (headSpec (zz_cw hh M :: Ts) (zz_rm d (h1.length - h.length) (zz_sl nf h1 - zz_sl nf h))).room s m (as.map (zz_v B O)).toArray below meth c s.heap [] ls h.length (zz_sl nf h) hx hb hr hlk hml hown hnm (fun w hw => hts w (List.mem_cons_of_mem _ hw)) hK hN hX hY hpt ⟨hP, va_S.rf, hz, hlen, by rw [hz]; exact Nat.le_add_right _ _⟩ (by rw [zz_args_v]; exact hl) (Nat.le_refl _) (Nat.le_refl _) (Nat.le_refl _) (Nat.le_refl _) (Nat.le_refl _) (Nat.le_refl _)
    rw [Nat.sub_self, Nat.sub_self] at this
    exact this
  cases hq : hh M.1.1 with
  | nil => exact Met.ofW (cc := M.1.2.1) (maxL := M.1.2.2.1) (ret := M.1.2.2.2) (ws' := Ts) hM.2.2.2.1 (by unfold zz_cw; rw [hq]) body
  | cons q9 l9 => exact va_MetW (cc := M.1.2.1) (maxL := M.1.2.2.1) (ret := M.1.2.2.2) (hh := q9 :: l9) (ws' := Ts) hM.2.2.2.1 (by unfold zz_cw; rw [hq]) body
set_option maxHeartbeats 4000000 in
/-- a callee that throws -/
theorem zz_metX {n : Nat} (ih : zz_Snd hh l P cl tf fd nf Ts NW D B O dA X n) {d : Nat} {M : zz_M} {as : List Value} {h h1 : zz_H} {q1 : Nat} (hc : zz_run P tf fd X n d M 0 (lv_args 0 as) [] h = some (.inr q1, h1)) (hM : zz_okM hh P cl tf fd nf Ts NW M) (hw : zz_words as ≤ M.1.2.2.1) (hq : hh M.1.1 = []) :
    vx_Met l M.1.1 (zz_cw hh M :: Ts) (zz_rm d (h1.length - h.length) (zz_sl nf h1 - zz_sl nf h)) (zz_Pc D cl B O dA NW X as h) (fun _ _ _ _ => False) (zz_Xc D cl B O dA h1) (h1.length - h.length) (zz_sl nf h1 - zz_sl nf h) (fun q => B ≤ q) := by
  refine vx_ofW (cc := M.1.2.1) (maxL := M.1.2.2.1) (ret := M.1.2.2.2) (ws' := Ts) hM.2.2.2.1 (by unfold zz_cw; rw [hq]) ?_
  intro p e s m args below meth c s₁ Bd hml _ hv
  obtain ⟨rfl, hP, hz, hlen, hK, hN, hX, hY⟩ := hv
  have hpt := zz_tab Bd
  have hx := Bd.exec
  have hb := Bd.bytes
  have hr := Bd.returns
  have hts := atoms_spec (ws := zz_cw hh M :: Ts) Bd.pre
  have hown : s.vm.findClass M.1.1.cls = some m.cls := findClass_of_methodNamed Bd.named
  have hlk := Bd.notSynchronized
  have hnm : M.1.1.name = "<init>" → meth.name = "<init>" := fun q => (name_of_methodNamed Bd.named Bd.method).1.trans q
  have hl := lv_entry (as.map (zz_v B O)) (n := M.1.2.2.1) (by rw [zz_words_sl, zz_words_v]; exact hw)
  rw [lg_entry_eq]
  generalize (lg_sl (as.map (zz_v B O)) ++ List.replicate (M.1.2.2.1 - (lg_sl (as.map (zz_v B O))).length) Slot.unset).toArray = ls at hl ⊢
  have := ih d M 0 (lv_args 0 as) [] h h1 (.inr q1) hc hM.1 p e (headSpec (zz_cw hh M :: Ts) (zz_rm d (h1.length - h.length) (zz_sl nf h1 - zz_sl nf h))).room s m (as.map (zz_v B O)).toArray below meth c s.heap [] ls h.length (zz_sl nf h) hx hb hr hlk hml hown hnm (fun w hw => hts w (List.mem_cons_of_mem _ hw)) hK hN hX hY hpt ⟨hP, va_S.rf, hz, hlen, by rw [hz]; exact Nat.le_add_right _ _⟩ (by rw [zz_args_v]; exact hl) (Nat.le_refl _) (Nat.le_refl _) (Nat.le_refl _) (Nat.le_refl _) (Nat.le_refl _) (Nat.le_refl _)
  rw [Nat.sub_self, Nat.sub_self] at this
  exact this
theorem zz_sum_v (B : Nat) (O : Nat → Nat) (v : Option Value) (rest : List Value) : (v.map (zz_v B O)).toList ++ zz_s B O rest = zz_s B O (v.toList ++ rest) := by
  cases v <;> rfl
theorem zz_split {B : Nat} {O : Nat → Nat} {n : Nat} {st rest : List Value} (h : st.drop n = rest) : zz_s B O st = (((st.take n).reverse).map (zz_v B O)).reverse ++ zz_s B O rest := by
  conv => lhs; rw [← List.take_append_drop n st, h]
  unfold zz_s
  rw [List.map_append, List.map_reverse, List.reverse_reverse]
set_option maxHeartbeats 4000000 in
theorem zz_sound (hlt : l.stackTraces = false) (hSt : zz_St hh P cl tf fd nf Ts NW) : ∀ n : Nat, zz_Snd hh l P cl tf fd nf Ts NW D B O dA X n := by
  obtain ⟨hG, hgood, hNk, ⟨q7, hc7, hq7⟩, ⟨q14, hc14, hq14, hz14, hn14⟩, hok⟩ := hSt
  intro n
  induction n with
  | zero => intro d M pc lv st h hf v hr; cases hr
  | succ n ih =>
    intro d M pc lv st h hf v hr hM p e R s m args below meth c H locs ls L0 S0 hx hb hret hlk hml hown hnm hts hK hN hX hY hpt hR hl hL0 hS0 hRc hRs hRf hRl
    unfold zz_run at hr
    split at hr
    · cases hr
    · rename_i r hrow
      obtain ⟨⟨cr, hcr, hmem⟩, hpc⟩ := zz_row_ok hrow
      obtain ⟨hdec, hokR, hokC, hokT⟩ := hM cr hcr r hmem
      rw [hpc] at hdec
      split at hr
      · -- an instruction
        split at hr
        · rename_i f' h' hs
          obtain ⟨pc', lv', st'⟩ := f'
          have hmo := zz_run_mono nf _ _ _ _ _ _ _ _ _ hr
          have hm1 := zz_step1_mono nf hs
          refine zz_step1_ok hx hb hts hG hown hK hN hc7 hq7 hX rfl hY hR hl hdec hnm hokR hs hL0 hS0 (by omega) (by omega) (fun H1 locs1 ls1 hR1 hl1 => ?_)
          exact ih d M pc' lv' st' h' hf v hr hM p e R s m args below meth c H1 locs1 ls1 L0 S0 hx hb hret hlk hml hown hnm hts hK hN hX hY hpt hR1 hl1 (by omega) (by omega) hRc hRs hRf hRl
        · cases hr
      · -- a return
        obtain ⟨pc0, ins, ln, na, nb, nn⟩ := r
        simp only at hr hdec
        obtain ⟨v1, hr1, hv1⟩ : ∃ v1, zz_ret M.1.2.2.2 ins ln st h = some (v1, hf) ∧ v = .inl v1 := by
          split at hr
          · rename_i v1 h1 e1
            cases hr
            exact ⟨v1, e1, rfl⟩
          · cases hr
        subst hv1
        clear hr
        have hr := hr1
        clear hr1
        show W p l e R s m args below meth c H locs (h.length - L0) (zz_sl nf h - S0) (MQ below (zz_Qc D cl B O dA v1 hf) args s (hf.length - L0) (zz_sl nf hf - S0) (fun q => B ≤ q)) (F0 m pc ls (zz_s B O st))
        have hQ : ∀ t : State, t.heap = H → va_P D cl (zz_w B O dA h) t.heap ∧ t.heap.size = B + h.length ∧ h.length ≤ zz_out ∧ va_F (fun q => B ≤ q) s t := fun t ht => ⟨by rw [ht]; exact hR.1, by rw [ht]; exact hR.2.2.1, hR.2.2.2.1, hR.2.1.F ht⟩
        have hs := zz_ret_same hr
        subst hs
        unfold zz_ret at hr
        split at hr
        · split at hr
          · rename_i v0
            split at hr
            · rename_i e0
              obtain ⟨e0, e1⟩ := e0
              subst e0
              cases hr
              unfold zz_reti at e1
              split at e1
              · rename_i hty
                exact W.iret hx hb (by rw [hret, hty]) (fun t ht hW => ⟨rfl, hQ t ht⟩) hR.2.1.2.2 hdec (hlocks := hlk)
              · rename_i hty
                exact W.zret (ty := .boolean) hx hb (by rw [hret, hty]) (by
                  simp at e1
                  rcases e1 with e1 | e1 <;> subst e1 <;> rfl) (fun t ht hW => ⟨rfl, hQ t ht⟩) hR.2.1.2.2 hdec (hlocks := hlk)
              · rename_i hty
                exact W.zret (ty := .byte) hx hb (by rw [hret, hty]) (by
                  simp at e1
                  rcases e1 with e1 | e1 <;> subst e1 <;> rfl) (fun t ht hW => ⟨rfl, hQ t ht⟩) hR.2.1.2.2 hdec (hlocks := hlk)
              · cases e1
            · cases hr
          · cases hr
        · split at hr
          · rename_i v0
            split at hr
            · rename_i e0
              obtain ⟨e0, e1⟩ := e0
              subst e0
              cases hr
              exact W.lret hx hb (by rw [hret, e1]) (fun t ht hW => ⟨rfl, hQ t ht⟩) hR.2.1.2.2 hdec (hlocks := hlk)
            · cases hr
          · cases hr
        · split at hr
          · rename_i v0
            split at hr
            · rename_i e0
              obtain ⟨e0, e1⟩ := e0
              subst e0
              cases hr
              unfold zz_retr at e1
              split at e1
              · rename_i C hty
                exact W.aret (rt := .object C) hx hb (by rw [hret, hty]) (Or.inl ⟨_, rfl⟩) (Or.inr ⟨_, rfl⟩) (fun t ht hW => ⟨rfl, hQ t ht⟩) hR.2.1.2.2 hdec (hlocks := hlk)
              · rename_i C hty
                exact W.aret (rt := .array C) hx hb (by rw [hret, hty]) (Or.inr ⟨_, rfl⟩) (Or.inr ⟨_, rfl⟩) (fun t ht hW => ⟨rfl, hQ t ht⟩) hR.2.1.2.2 hdec (hlocks := hlk)
              · cases e1
            · cases hr
          · cases hr
        · split at hr
          · split at hr
            · rename_i e0
              obtain ⟨e0, e1⟩ := e0
              subst e0
              cases hr
              exact W.vret hx hb (by rw [hret, e1]) (fun t ht hW => ⟨rfl, hQ t ht⟩) hR.2.1.2.2 hdec (hlocks := hlk)
            · cases hr
          · cases hr
        · cases hr
      · -- a throw
        rename_i hcls
        split at hr
        · rename_i hd8
          obtain ⟨hd8, hc8, hl8⟩ := hd8
          cases hr
          obtain ⟨ik, ic, t1, t2, t3, t4, t5, t6, t7, t8, t9, t10, t11⟩ := hokT.1 hcls
          have hdec0 : decode M.1.2.1 pc = .ok (.new ik, 3) := by rw [hdec, t1, t2]
          rw [hpc] at t3 t4 t5 t6
          have hstr : vk_R M.1.1.cls 276 "a fault" (O 46) s := by
            rw [t7]
            exact hY.2.2.2.1 ("TallySlate$Parser", 276, "a fault", 46) (by simp [zx_K])
          have hpt0 : ∀ x ∈ c.exceptionTable.toList, covers x (pc + 10) = false := by
            rw [hpt, t8]
            intro x hx
            cases hx
          have e1 : (h ++ [(.inr (14, []) : zz_C)]).length - L0 = h.length - L0 + 1 := by
            rw [List.length_append]
            show h.length + 1 - L0 = _
            omega
          have e2 : zz_sl nf (h ++ [(.inr (14, []) : zz_C)]) - S0 = zz_sl nf h - S0 + 6 := by
            rw [zz_sl_app]
            show zz_sl nf h + nf 14 - S0 = _
            rw [hn14]
            omega
          rw [e1] at hRc
          rw [e2] at hRs
          show W p l e R s m args below meth c H locs (h.length - L0) (zz_sl nf h - S0) (vx_MQ below (fun _ _ _ _ => False) (zz_Xc D cl B O dA (h ++ [.inr (14, [])])) args s ((h ++ [(.inr (14, []) : zz_C)]).length - L0) (zz_sl nf (h ++ [(.inr (14, []) : zz_C)]) - S0) (fun q => B ≤ q)) (F0 m pc ls (zz_s B O st))
          rw [e1, e2]
          refine zx_throw (A := fun q => B ≤ q) (cls := zz_ise) (names := ["java/lang/RuntimeException", "java/lang/Exception"]) hx hb hlt hown (by decide) (by decide) (hts _ t9) (hts _ t10) hstr (fun w hw => (t11 w hw).elim (hts _) (fun q => va_Nw.use q.2 (hN w q.1))) ?_ hY.2.2.2.2.1 hY.2.2.2.2.2 hR.2.1 (by rw [hml]; exact hl.1) hdec0 t3 t4 t5 t6 hpt0 (by show 2 + 3 < R.frames; omega) ?_ hRc hRs hlk ?_ hR.2.1.2.2 (Nat.le_refl _) (Nat.le_refl _)
          · intro w hw
            unfold vx_ot
            rw [Bool.or_eq_true]
            rcases List.mem_cons.mp hw with q | q
            · rw [q]; exact Or.inr (hgood _ t9)
            · rcases List.mem_cons.mp q with q | q
              · rw [q]; exact Or.inr (hgood _ t10)
              · exact (t11 w q).elim (fun z => Or.inr (hgood _ z)) (fun z => Or.inl z.2)
          · show ((zz_s B O st).map fun v => v.category).sum + (13 * (2 + 1) + 43) ≤ R.locals
            rw [zz_cats_v]
            omega
          · intro t ce hal hsz hold hce hcv hcl
            obtain ⟨hP0, hS0', hz0, hl0, hB0⟩ := hR
            refine ⟨rfl, ?_, by rw [hsz, hz0, List.length_append]; rfl, by rw [List.length_append]; exact hl8, ⟨by rw [hsz]; exact Nat.le_trans hS0'.1 (Nat.le_succ _), fun q h1 h2 => by rw [hold q (Nat.lt_of_lt_of_le h1 hS0'.1)]; exact hS0'.2.1 q h1 h2⟩⟩
            rw [← zz_w_app]
            intro k q hk
            by_cases hkl : k < (zz_w B O dA h).length
            · rw [List.getElem?_append_left hkl] at hk
              have hat := hP0 k q hk
              exact hat.kept (hold _ hat.lt)
            · rw [List.getElem?_append_right (Nat.not_lt.mp hkl)] at hk
              have hk0 : k - (zz_w B O dA h).length = 0 := by
                rcases Nat.eq_zero_or_pos (k - (zz_w B O dA h).length) with z | z
                · exact z
                · rw [List.getElem?_eq_none (show 1 ≤ _ from z)] at hk
                  cases hk
              rw [hk0] at hk
              cases hk
              refine ⟨q14, hc14, ?_⟩
              have hcl2 : s.vm.findClass q14.1 = some (D.1 14) := (hK.1 14 q14 hc14).2.1
              rw [hq14, hcl] at hcl2
              exact ⟨ce, by rw [hz0] at hce; exact hce, Option.some.inj hcl2, hcv, fun k hk => absurd hk (by rw [hz14]; exact Nat.not_lt_zero k)⟩
        · cases hr
      · -- a call
        rename_i n0 n1 n3
        clear n0 n1 n3
        split at hr
        · cases hr
        · rename_i d'
          split at hr
          · rename_i hnn
            split at hr
            · rename_i st1 h1 hs
              split at hr
              · rename_i hln
                obtain ⟨pc0, ins, ln, na, nb, nn⟩ := r
                simp only at hr hdec hs hln hnn
                subst hln
                unfold zz_spec at hs
                split at hs
                · rename_i z1 idx
                  split at hs
                  · rename_i b rest
                    split at hs
                    · rename_i hct
                      obtain ⟨hct, hn1⟩ := hct
                      subst hn1
                      cases hs
                      have hokC : Cond.methodLink M.1.1.cls idx Lib.objectInit ∈ Ts ∧ Cond.instanceMethod Lib.objectInit ∈ Ts ∧ Cond.code Lib.objectInit ⟨#[0xb1]⟩ 1 none ∈ Ts := by
                        have := hokC
                        simp only [zz_okC, if_true] at this
                        exact this
                      refine W.objInit hx hb hown (hts _ hokC.1) (hts _ hokC.2.1) (hts _ hokC.2.2) rfl (by rw [hml]; exact hl.1) rfl hdec (by omega) ?_ ?_
                      · show 2 * 0 + ((zz_s B O st1).map fun v => v.category).sum + 12 ≤ R.locals
                        rw [zz_cats_v]
                        omega
                      · exact ih (d' + 1) M (pc + 3) lv st1 h hf v hr hM p e R s m args below meth c H locs ls L0 S0 hx hb hret hlk hml hown hnm hts hK hN hX hY hpt hR hl hL0 hS0 hRc hRs hRf hRl
                    · cases hs
                  · cases hs
                · rename_i z1 idx
                  split at hs
                  · rename_i hn1
                    subst hn1
                    have hokC : Cond.methodLink M.1.1.cls idx arraycopyName ∈ Ts ∧ Cond.native arraycopyName ∈ Ts ∧ Cond.static arraycopyName ∈ Ts ∧ Cond.initialized "java/lang/System" ∈ Ts := by
                      have := hokC
                      simp only [zz_okC, if_true] at this
                      exact this
                    have hmo := zz_acp_mono nf hs
                    have hmo2 := zz_run_mono nf _ _ _ _ _ _ _ _ _ hr
                    refine zz_acp_ok hx hb (by rw [hml]; exact hl.1.symm) hts hown hK hR hokC.1 hokC.2.1 hokC.2.2.1 hokC.2.2.2 (by omega) (by omega) hdec hs (fun H1 locs1 hR1 => ?_)
                    have := ih (d' + 1) M (pc + 3) lv st1 h1 hf v hr hM p e R s m args below meth c H1 locs1 ls L0 S0 hx hb hret hlk hml hown hnm hts hK hN hX hY hpt hR1 hl (by omega) (by omega) hRc hRs hRf hRl
                    rw [hmo.1, hmo.2] at this
                    exact this
                  · rename_i hn9
                    split at hs
                    · rename_i st2 hm
                      have hst2 : st1 = st2 ∧ h1 = h := by cases hs; exact ⟨rfl, rfl⟩
                      obtain ⟨rfl, rfl⟩ := hst2
                      have hmo2 := zz_run_mono nf _ _ _ _ _ _ _ _ _ hr
                      have hgo1 : ∀ st3 : List Value, st1 = st3 → W p l e R s m args below meth c H locs (h1.length - L0) (zz_sl nf h1 - S0) (zz_fin below D cl B O dA args s (hf.length - L0) (zz_sl nf hf - S0) v hf) (F0 m (pc + 3) ls (zz_s B O st3)) := fun st3 q => by
                        subst q
                        exact ih (d' + 1) M (pc + 3) lv st1 h1 hf v hr hM p e R s m args below meth c H locs ls L0 S0 hx hb hret hlk hml hown hnm hts hK hN hX hY hpt hR hl hL0 hS0 hRc hRs hRf hRl
                      clear hs
                      unfold zz_math at hm
                      split at hm
                      · rename_i hn4
                        subst hn4
                        split at hm
                        · rename_i x rest
                          split at hm
                          · rename_i hct
                            cases hm
                            have hB : zz_mB Ts M.1.1.cls idx Lib.MathLoose.abs_long.x Lib.MathLoose.abs_long.code 2 .long := hokC
                            have hcv := zz_cats_v B O rest
                            exact va_mabs_long (rest := zz_s B O rest) hx hb (by rw [hml]; exact hl.1.symm) hown (hts _ hB.1) (hts _ hB.2.1) (hts _ hB.2.2.1) (hts _ hB.2.2.2) (by omega) (by rw [hcv]; omega) (by omega) (by omega) hdec (hgo1 _ rfl)
                          · cases hm
                        · cases hm
                      · split at hm
                        · rename_i y x rest
                          split at hm
                          · rename_i hct
                            obtain ⟨hct, hn1⟩ := hct
                            subst hn1
                            cases hm
                            have hB : zz_mB Ts M.1.1.cls idx Lib.Math.min.name Lib.Math.min.code 2 .int := hokC
                            have hcv := zz_cats_v B O rest
                            exact va_mmin (rest := zz_s B O rest) hx hb (by rw [hml]; exact hl.1.symm) hown (hts _ hB.1) (hts _ hB.2.1) (hts _ hB.2.2.1) (hts _ hB.2.2.2) (by omega) (by rw [hcv]; omega) (by omega) (by omega) hdec (hgo1 _ rfl)
                          · split at hm
                            · rename_i hct
                              obtain ⟨hct, hn1⟩ := hct
                              subst hn1
                              cases hm
                              have hB : zz_mB Ts M.1.1.cls idx Lib.Math.max.name Lib.Math.max.code 2 .int := hokC
                              have hcv := zz_cats_v B O rest
                              exact va_mmax (rest := zz_s B O rest) hx hb (by rw [hml]; exact hl.1.symm) hown (hts _ hB.1) (hts _ hB.2.1) (hts _ hB.2.2.1) (hts _ hB.2.2.2) (by omega) (by rw [hcv]; omega) (by omega) (by omega) hdec (hgo1 _ rfl)
                            · cases hm
                        · rename_i y x rest
                          split at hm
                          · rename_i hct
                            obtain ⟨hct, hn1⟩ := hct
                            subst hn1
                            cases hm
                            have hB : zz_mB Ts M.1.1.cls idx Lib.MathLoose.min_long.x Lib.MathLoose.min_long.code 4 .long := hokC
                            have hcv := zz_cats_v B O rest
                            exact va_mmin_long (rest := zz_s B O rest) hx hb (by rw [hml]; exact hl.1.symm) hown (hts _ hB.1) (hts _ hB.2.1) (hts _ hB.2.2.1) (hts _ hB.2.2.2) (by omega) (by rw [hcv]; omega) (by omega) (by omega) hdec (hgo1 _ rfl)
                          · split at hm
                            · rename_i hct
                              obtain ⟨hct, hn1⟩ := hct
                              subst hn1
                              cases hm
                              have hB : zz_mB Ts M.1.1.cls idx Lib.MathLoose.max_long.x Lib.MathLoose.max_long.code 4 .long := hokC
                              have hcv := zz_cats_v B O rest
                              exact va_mmax_long (rest := zz_s B O rest) hx hb (by rw [hml]; exact hl.1.symm) hown (hts _ hB.1) (hts _ hB.2.1) (hts _ hB.2.2.1) (hts _ hB.2.2.2) (by omega) (by rw [hcv]; omega) (by omega) (by omega) hdec (hgo1 _ rfl)
                            · cases hm
                        · cases hm
                    · cases hs
                · cases hs
              · cases hr
            · cases hr
          · rename_i hnn
            split at hr
            · cases hr
            · rename_i as rest hsite
              split at hr
              · cases hr
              · rename_i M' hP'
                split at hr
                · rename_i hlw
                  obtain ⟨hln, hw⟩ := hlw
                  split at hr
                  · cases hr
                  · -- the callee returns
                    rename_i v1 h1 hc
                    have hM' := hok _ _ hP'
                    have hMet := zz_met ih hc hM' hw
                    have m1 := zz_run_mono nf _ _ _ _ _ _ _ _ _ hc
                    have m2 := zz_run_mono nf _ _ _ _ _ _ _ _ _ hr
                    obtain ⟨pc0, ins, ln, na, nb, nn⟩ := r
                    simp only at hr hdec hsite hln hnn hP'
                    subst hln
                    have hfit : (h.length - L0) + (h1.length - h.length) ≤ R.cells ∧ (zz_sl nf h - S0) + (zz_sl nf h1 - zz_sl nf h) ≤ R.slots := ⟨by omega, by omega⟩
                    have hroom : (zz_rm d' (h1.length - h.length) (zz_sl nf h1 - zz_sl nf h)).frames + 1 ≤ R.frames ∧ 8 + (M'.1.2.2.1 + 11) + (zz_rm d' (h1.length - h.length) (zz_sl nf h1 - zz_sl nf h)).locals ≤ R.locals := ⟨hRf, by have := hM'.2.2.2.2.2; show 8 + (M'.1.2.2.1 + 11) + 64 * d' ≤ R.locals; omega⟩
                    have hblind : FrameBlind (zz_Pc D cl B O dA NW X as h) := zz_blind hNk
                    have hpre : ∀ U : State, U.heap = H → s.WarmedH U.vm → zz_Pc D cl B O dA NW X as h (as.map (zz_v B O)).toArray U := fun U hU hW => ⟨rfl, by rw [hU]; exact hR.1, by rw [hU]; exact hR.2.2.1, hR.2.2.2.1, va_K.moved hW.alike hK, fun w hw => zz_Nw_warm (hNk w hw) hW (hN w hw), by rw [hU]; exact (hX.kept (fun q hq => hR.2.1.2.1 q (Nat.lt_of_lt_of_le hq hR.2.2.2.2) (Nat.not_le.mpr hq))).moved hW.alike, by rw [hU]; exact (hY.kept (fun q hq => hR.2.1.2.1 q (Nat.lt_of_lt_of_le hq hR.2.2.2.2) (Nat.not_le.mpr hq))).warm hW⟩
                    have hws : ∀ w ∈ zz_cw hh M' :: Ts, w ∈ Ts := fun w hw => by
                      rcases List.mem_cons.mp hw with q | q
                      · rw [q]; exact hM'.2.1
                      · exact q
                    have hgo : ∀ (H1 : Heap) (locs1 : List Loc), zz_R D cl B O dA s.heap locs1 h1 H1 → W p l e R s m args below meth c H1 locs1 (h.length - L0 + (h1.length - h.length)) (zz_sl nf h - S0 + (zz_sl nf h1 - zz_sl nf h)) (zz_fin below D cl B O dA args s (hf.length - L0) (zz_sl nf hf - S0) v hf) (F0 m (pc + 3) ls ((v1.map (zz_v B O)).toList ++ zz_s B O rest)) := fun H1 locs1 hR1 => by
                      rw [zz_sum_v, show h.length - L0 + (h1.length - h.length) = h1.length - L0 by omega, show zz_sl nf h - S0 + (zz_sl nf h1 - zz_sl nf h) = zz_sl nf h1 - S0 by omega]
                      exact ih (d' + 1) M (pc + 3) lv (v1.toList ++ rest) h1 hf v hr hM p e R s m args below meth c H1 locs1 ls L0 S0 hx hb hret hlk hml hown hnm hts hK hN hX hY hpt hR1 hl (by omega) (by omega) hRc hRs hRf hRl
                    have hcw0 : hh M'.1.1 = [] → zz_cw hh M' :: Ts = Cond.code M'.1.1 M'.1.2.1 M'.1.2.2.1 M'.1.2.2.2 :: Ts := fun q => by unfold zz_cw; rw [q]
                    unfold zz_site at hsite
                    split at hsite
                    · -- static
                      rename_i z1 idx
                      split at hsite
                      · rename_i e0
                        obtain ⟨e0, e1⟩ := e0
                        cases hsite
                        have hn6 : ¬ nn = -1 ∧ ¬ nn = -2 ∧ ¬ nn = -3 ∧ ¬ nn = -4 ∧ ¬ nn = -5 ∧ ¬ nn = -6 := ⟨by omega, by omega, by omega, by omega, by omega, by omega⟩
                        have hokC : ∃ M2 : zz_M, P na = some M2 ∧ (parseMethodDescriptor M2.1.1.desc).map (fun d => d.parameters.length) = some nb ∧ hh M2.1.1 = [] ∧ Cond.static M2.1.1 ∈ Ts ∧ ((Cond.methodLink M.1.1.cls idx M2.1.1 ∈ Ts) ∨ (hh M2.1.1 = [] ∧ ∃ host, Cond.methodLinkNest M.1.1.cls idx M2.1.1 host ∈ NW)) := by
                          have := hokC
                          simp only [zz_okC] at this
                          rw [if_neg hn6.1, if_neg hn6.2.1, if_neg hn6.2.2.1, if_neg hn6.2.2.2.1, if_neg hn6.2.2.2.2.1, if_neg hn6.2.2.2.2.2] at this
                          exact this
                        obtain ⟨M2, g1, g2, g9, g3, g4⟩ := hokC
                        rw [hP'] at g1
                        cases g1
                        rw [zz_split (B := B) (O := O) (n := nb) (st := st) rfl]
                        have hn : (((st.take nb).reverse).map (zz_v B O)).length = nb := by simp; omega
                        have hcat : 2 * (F0 m pc ls ((((st.take nb).reverse).map (zz_v B O)).reverse ++ zz_s B O (st.drop nb))).monitorRoom + ((zz_s B O (st.drop nb)).map fun v => v.category).sum ≤ 8 := by
                          show 2 * 0 + _ ≤ 8
                          rw [zz_cats_v]; omega
                        rcases g4 with g4 | ⟨-, host, g4⟩
                        · exact zz_called (va_runS (As := ((st.take nb).reverse).map (zz_v B O)) (rest := zz_s B O (st.drop nb)) ⟨hx, hb, hml, hown, hts⟩ hMet (va_cwS nb hts (zz_good hgood (fun w hw => by
                            rcases List.mem_append.mp hw with q | q
                            · simp only [List.mem_cons, List.mem_nil_iff, or_false] at q
                              rcases q with q | q | q
                              · rw [q]; exact g4
                              · rw [q]; exact g3
                              · rw [q]; exact hM'.2.2.1
                            · exact hws w q)) (hcw0 g9) rfl rfl ⟨hM'.2.2.2.2.1.1, hM'.2.2.2.2.1.2, g2⟩ hroom) ⟨hblind, hpre⟩ rfl hn hl.1 rfl hcat hdec hfit) hR hgo
                        · exact zz_called (va_runSN (As := ((st.take nb).reverse).map (zz_v B O)) (rest := zz_s B O (st.drop nb)) ⟨hx, hb, hml, hown, hts⟩ hMet ⟨va_cnB nb hts (zz_good hgood hws) (hcw0 g9) rfl rfl (hN _ g4) (hts _ hM'.2.2.1) ⟨hM'.2.2.2.2.1.1, hM'.2.2.2.2.1.2, g2⟩ hroom, hts _ g3, trivial⟩ ⟨hblind, hpre⟩ rfl hn hl.1 rfl hcat hdec hfit) hR hgo
                      · cases hsite
                    · -- virtual
                      rename_i z1 idx
                      split at hsite
                      · rename_i b rest2 hdrop
                        split at hsite
                        · rename_i ci fs hb9
                          split at hsite
                          · rename_i e0
                            obtain ⟨e0, e1, e3, e2⟩ := e0
                            cases hsite
                            obtain ⟨M2, g1, g2, g3, g45⟩ := hokC
                            have g1 : P na = some M2 := g1
                            have g2 : (parseMethodDescriptor M2.1.1.desc).map (fun d => d.parameters.length) = some nb := g2
                            rw [hP'] at g1
                            cases g1
                            rw [zz_split (B := B) (O := O) (n := nb) (st := st) hdrop]
                            have hn : (((st.take nb).reverse).map (zz_v B O)).length = nb := by simp; omega
                            have hcat : 2 * (F0 m pc ls ((((st.take nb).reverse).map (zz_v B O)).reverse ++ zz_s B O (.ref b :: rest))).monitorRoom + ((zz_s B O rest).map fun v => v.category).sum ≤ 8 := by
                              show 2 * 0 + _ ≤ 8
                              rw [zz_cats_v]; omega
                            rcases g45 with ⟨g4, g5, g5x, g6⟩ | ⟨g9, g20, gU⟩
                            · have hrecv : ∃ cellB : Cell, H[zz_a B O b]? = some cellB ∧ cellB.vm.isStatics = false ∧ s.vm.findClass M'.1.1.cls = some cellB.cls := by
                                unfold zz_rd at hb9
                                split at hb9
                                · rename_i hb1
                                  obtain ⟨q9, k1, cell, k2, k3, k4, -⟩ := hR.1 b _ (zz_w_at hb9)
                                  refine ⟨cell, by rw [zz_a_in hb1]; exact k2, by rw [k4]; rfl, ?_⟩
                                  rw [k3, ← g5 ci q9 e2 k1]
                                  exact (hK.1 ci q9 k1).2.1
                                · rename_i hb1
                                  obtain ⟨cell, k1, k2, k3, -⟩ := (hY.1 _ _ _ hb9).1.kept hR.2.1.2.1
                                  refine ⟨cell, by rw [show zz_a B O b = O (b - zz_out) from if_neg hb1]; exact k1, k2, ?_⟩
                                  rw [← g5x ci (Nat.not_lt.mp fun z => hb1 (e3.mpr z)) e2]
                                  exact k3
                              rcases g6 with g6 | ⟨g9, host, g6⟩
                              · have hgw : GoodIn Ts (wsV M.1.1.cls idx M'.1.1.cls M'.1.1 (zz_cw hh M' :: Ts)) := zz_good hgood (fun w hw => by
                                  rcases List.mem_append.mp hw with q | q
                                  · simp only [List.mem_cons, List.mem_nil_iff, or_false] at q
                                    rcases q with q | q | q | q
                                    · rw [q]; exact g6
                                    · rw [q]; exact g3
                                    · rw [q]; exact g4
                                    · rw [q]; exact hM'.2.2.1
                                  · exact hws w q)
                                cases hq9 : hh M'.1.1 with
                                | nil => exact zz_called (va_runV (C := M'.1.1.cls) (b := zz_a B O b) (As := ((st.take nb).reverse).map (zz_v B O)) (rest := zz_s B O rest) ⟨hx, hb, hml, hown, hts⟩ hMet (cwV nb hts hgw (hcw0 hq9) rfl rfl ⟨rfl, hM'.2.2.2.2.1.1, hM'.2.2.2.2.1.2, g2⟩ hroom) ⟨hblind, hrecv, hpre⟩ rfl hn hl.1 rfl hcat hdec hfit) hR hgo
                                | cons q9 l9 => exact zz_called (vx_runVW (C := M'.1.1.cls) (b := zz_a B O b) (As := ((st.take nb).reverse).map (zz_v B O)) (rest := zz_s B O rest) ⟨hx, hb, hml, hown, hts⟩ hMet (vx_cwVW (hh := q9 :: l9) nb hts hgw (by unfold zz_cw; rw [hq9]) rfl rfl ⟨rfl, hM'.2.2.2.2.1.1, hM'.2.2.2.2.1.2, g2⟩ hroom) ⟨hblind, hrecv, hpre⟩ rfl hn hl.1 rfl hcat hdec hfit) hR hgo
                              · exact zz_called (va_runVN (C := M'.1.1.cls) (b := zz_a B O b) (As := ((st.take nb).reverse).map (zz_v B O)) (rest := zz_s B O rest) ⟨hx, hb, hml, hown, hts⟩ hMet ⟨va_cnB nb hts (zz_good hgood hws) (hcw0 g9) rfl rfl (hN _ g6) (hts _ hM'.2.2.1) ⟨hM'.2.2.2.2.1.1, hM'.2.2.2.2.1.2, g2⟩ hroom, hts _ g3, hts _ g4⟩ ⟨hblind, hrecv, hpre⟩ rfl hn hl.1 rfl hcat hdec hfit) hR hgo
                            · have hci : ci = 20 := by
                                have e2 : (ci : Int) = nn ∨ (ci : Int) + 1000 = nn ∨ (ci : Int) + 2000 = nn := e2
                                have g20 : nn = 20 := g20
                                omega
                              subst hci
                              have hb1 : ¬ b < zz_out := fun z => absurd (e3.mp z) (by decide)
                              unfold zz_rd at hb9
                              rw [if_neg hb1] at hb9
                              have hrecv : ∃ cellB : Cell, H[zz_a B O b]? = some cellB ∧ cellB.vm.isStatics = false ∧ s.vm.findClass "TallySlate$Word" = some cellB.cls := by
                                obtain ⟨cell, k1, k2, k3, -⟩ := (hY.1 _ _ _ hb9).1.kept hR.2.1.2.1
                                exact ⟨cell, by rw [show zz_a B O b = O (b - zz_out) from if_neg hb1]; exact k1, k2, k3⟩
                              exact zz_called (va_runU (C := "TallySlate$Word") (owner := M'.1.1.cls) (x := ⟨"TallySlate$Word", M'.1.1.name, M'.1.1.desc⟩) (b := zz_a B O b) (As := ((st.take nb).reverse).map (zz_v B O)) (rest := zz_s B O rest) ⟨hx, hb, hml, hown, hts⟩ hMet (va_cwU nb hts (zz_good hgood (fun w hw => by
                                rcases List.mem_append.mp hw with q | q
                                · exact gU w (List.mem_append_left _ q)
                                · exact hws w q)) (hcw0 g9) rfl rfl rfl ⟨hM'.2.2.2.2.1.1, hM'.2.2.2.2.1.2, g2⟩ hroom) ⟨hblind, hrecv, hpre⟩ rfl hn hl.1 rfl hcat hdec hfit) hR hgo
                          · cases hsite
                        · cases hsite
                      · cases hsite
                    · -- a constructor
                      rename_i z1 idx
                      split at hsite
                      · rename_i b rest2 hdrop
                        split at hsite
                        · rename_i e0
                          obtain ⟨e0, e1⟩ := e0
                          cases hsite
                          have hokC : ∃ M2 : zz_M, P na = some M2 ∧ (parseMethodDescriptor M2.1.1.desc).map (fun d => d.parameters.length) = some nb ∧ M2.1.1.name = "<init>" ∧ M2.1.2.2.2 = none ∧ hh M2.1.1 = [] ∧ Cond.instanceMethod M2.1.1 ∈ Ts ∧ ((Cond.methodLink M.1.1.cls idx M2.1.1 ∈ Ts) ∨ (hh M2.1.1 = [] ∧ ∃ host, Cond.methodLinkNest M.1.1.cls idx M2.1.1 host ∈ NW)) := by
                            have := hokC
                            simp only [zz_okC] at this
                            rw [if_neg (show ¬ nn = -1 by omega)] at this
                            exact this
                          obtain ⟨M2, g1, g2, g3, g4, g9, g5, g6⟩ := hokC
                          rw [hP'] at g1
                          cases g1
                          rw [zz_split (B := B) (O := O) (n := nb) (st := st) hdrop]
                          have hn : (((st.take nb).reverse).map (zz_v B O)).length = nb := by simp; omega
                          have hcat : 2 * (F0 m pc ls ((((st.take nb).reverse).map (zz_v B O)).reverse ++ zz_s B O (.ref b :: rest))).monitorRoom + ((zz_s B O rest).map fun v => v.category).sum ≤ 8 := by
                            show 2 * 0 + _ ≤ 8
                            rw [zz_cats_v]; omega
                          have hcw1 : zz_cw hh M' :: Ts = Cond.code M'.1.1 M'.1.2.1 M'.1.2.2.1 none :: Ts := by rw [hcw0 g9, g4]
                          rcases g6 with g6 | ⟨-, host, g6⟩
                          · exact zz_called (va_runI (bytes := M'.1.2.1) (maxL := M'.1.2.2.1) (b := zz_a B O b) (As := ((st.take nb).reverse).map (zz_v B O)) (rest := zz_s B O rest) ⟨hx, hb, hml, hown, hts⟩ hMet (cwI nb hts (zz_good hgood hws) hcw1 rfl rfl (hts _ hM'.2.2.1) (hts _ g6) (hts _ g5) g3 ⟨hM'.2.2.2.2.1.1, hM'.2.2.2.2.1.2, g2⟩ hroom) ⟨hblind, hpre⟩ rfl hn hl.1 rfl hcat hdec hfit) hR hgo
                          · exact zz_called (va_runIN (bytes := M'.1.2.1) (maxL := M'.1.2.2.1) (b := zz_a B O b) (As := ((st.take nb).reverse).map (zz_v B O)) (rest := zz_s B O rest) ⟨hx, hb, hml, hown, hts⟩ hMet ⟨va_cnB nb hts (zz_good hgood hws) hcw1 rfl rfl (hN _ g6) (hts _ hM'.2.2.1) ⟨hM'.2.2.2.2.1.1, hM'.2.2.2.2.1.2, g2⟩ hroom, g3, hts _ g5⟩ ⟨hblind, hpre⟩ rfl hn hl.1 rfl hcat hdec hfit) hR hgo
                        · cases hsite
                      · cases hsite
                    · cases hsite
                  · -- the callee throws
                    rename_i q1 h1 hc
                    have hcls2 : zz_cls r = 2 := by
                      have a0 := hnn
                      obtain ⟨pc0, ins, ln, na, nb, nn⟩ := r
                      unfold zz_site at hsite
                      split at hsite
                      · rename_i z; simp only at z; subst z; rfl
                      · rename_i z; simp only at z; subst z; rfl
                      · rename_i z; simp only at z; subst z; rfl
                      · cases hsite
                    have h5 : r.2.2.2.2.2 = 5 ∨ r.2.2.2.2.2 = 2005 := by
                      split at hr
                      · rename_i z; exact Or.inl z
                      · split at hr
                        · rename_i z; exact Or.inr z
                        · cases hr
                    have hM' := hok _ _ hP'
                    obtain ⟨idx, M2, j1, j2, j3, j4, j5, j6, j7, j8⟩ := hokT.2.1 hcls2 h5
                    rw [hP'] at j2
                    cases j2
                    have hMet := zz_metX ih hc hM' hw j3
                    have m1 := zz_run_mono nf _ _ _ _ _ _ _ _ _ hc
                    have hh1 : h1 = hf := by
                      split at hr
                      · cases hr; rfl
                      · split at hr
                        · cases hr; rfl
                        · cases hr
                    subst hh1
                    obtain ⟨pc0, ins, ln, na, nb, nn⟩ := r
                    simp only at hr hdec hsite hln hnn hP' j1 j8 h5 hpc
                    subst hln
                    subst j1
                    subst hpc
                    have hfit : (h.length - L0) + (h1.length - h.length) ≤ R.cells ∧ (zz_sl nf h - S0) + (zz_sl nf h1 - zz_sl nf h) ≤ R.slots := ⟨by omega, by omega⟩
                    have hroom : (zz_rm d' (h1.length - h.length) (zz_sl nf h1 - zz_sl nf h)).frames + 1 ≤ R.frames ∧ 8 + (M'.1.2.2.1 + 11) + (zz_rm d' (h1.length - h.length) (zz_sl nf h1 - zz_sl nf h)).locals ≤ R.locals := ⟨hRf, by have := hM'.2.2.2.2.2; show 8 + (M'.1.2.2.1 + 11) + 64 * d' ≤ R.locals; omega⟩
                    have hblind : FrameBlind (zz_Pc D cl B O dA NW X as h) := zz_blind hNk
                    have hpre : ∀ U : State, U.heap = H → s.WarmedH U.vm → zz_Pc D cl B O dA NW X as h (as.map (zz_v B O)).toArray U := fun U hU hW => ⟨rfl, by rw [hU]; exact hR.1, by rw [hU]; exact hR.2.2.1, hR.2.2.2.1, va_K.moved hW.alike hK, fun w hw => zz_Nw_warm (hNk w hw) hW (hN w hw), by rw [hU]; exact (hX.kept (fun q hq => hR.2.1.2.1 q (Nat.lt_of_lt_of_le hq hR.2.2.2.2) (Nat.not_le.mpr hq))).moved hW.alike, by rw [hU]; exact (hY.kept (fun q hq => hR.2.1.2.1 q (Nat.lt_of_lt_of_le hq hR.2.2.2.2) (Nat.not_le.mpr hq))).warm hW⟩
                    have hws : ∀ w ∈ zz_cw hh M' :: Ts, w ∈ Ts := fun w hw => by
                      rcases List.mem_cons.mp hw with q | q
                      · rw [q]; exact hM'.2.1
                      · exact q
                    have hcw0 : zz_cw hh M' :: Ts = Cond.code M'.1.1 M'.1.2.1 M'.1.2.2.1 M'.1.2.2.2 :: Ts := by unfold zz_cw; rw [j3]
                    simp only [zz_site] at hsite
                    split at hsite
                    · rename_i b rest2 hdrop
                      split at hsite
                      · rename_i ci fs hb9
                        split at hsite
                        · rename_i e0
                          obtain ⟨e0, e1, e3, e2⟩ := e0
                          cases hsite
                          rw [zz_split (B := B) (O := O) (n := nb) (st := st) hdrop]
                          have hn : (((st.take nb).reverse).map (zz_v B O)).length = nb := by simp; omega
                          have hcat : 2 * (F0 m pc0 ls ((((st.take nb).reverse).map (zz_v B O)).reverse ++ zz_s B O (.ref b :: rest))).monitorRoom + ((zz_s B O rest).map fun v => v.category).sum ≤ 8 := by
                            show 2 * 0 + _ ≤ 8
                            rw [zz_cats_v]; omega
                          have hrecv : ∃ cellB : Cell, H[zz_a B O b]? = some cellB ∧ cellB.vm.isStatics = false ∧ s.vm.findClass M'.1.1.cls = some cellB.cls := by
                            have e2 : (ci : Int) = nn ∨ (ci : Int) + 1000 = nn ∨ (ci : Int) + 2000 = nn := e2
                            obtain ⟨M3, x1, x2, x3, x4⟩ := hokC
                            have x1 : P na = some M3 := x1
                            rw [hP'] at x1
                            cases x1
                            rcases x4 with ⟨-, x5, x5', -⟩ | ⟨-, x6, -⟩
                            · by_cases hb1 : b < zz_out
                              · have hlt : ci < 20 := e3.mp hb1
                                have hci : ci = 5 := by omega
                                subst hci
                                unfold zz_rd at hb9
                                rw [if_pos hb1] at hb9
                                obtain ⟨q9, k1, cell, k2, k3, k4, -⟩ := hR.1 b _ (zz_w_at hb9)
                                refine ⟨cell, by rw [zz_a_in hb1]; exact k2, by rw [k4]; rfl, ?_⟩
                                rw [k3, ← x5 5 q9 e2 k1]
                                exact (hK.1 5 q9 k1).2.1
                              · have hge : 20 ≤ ci := Nat.le_of_not_lt (fun z => hb1 (e3.mpr z))
                                unfold zz_rd at hb9
                                rw [if_neg hb1] at hb9
                                obtain ⟨cell, k1, k2, k3, -⟩ := (hY.1 _ _ _ hb9).1.kept hR.2.1.2.1
                                exact ⟨cell, by rw [show zz_a B O b = O (b - zz_out) from if_neg hb1]; exact k1, k2, by rw [← x5' ci hge e2]; exact k3⟩
                            · have x6 : nn = 20 := x6
                              omega
                          have hgw : GoodIn Ts (wsV M.1.1.cls idx M'.1.1.cls M'.1.1 (zz_cw hh M' :: Ts)) := zz_good hgood (fun w hw => by
                            rcases List.mem_append.mp hw with q | q
                            · simp only [List.mem_cons, List.mem_nil_iff, or_false] at q
                              rcases q with q | q | q | q
                              · rw [q]; exact j5
                              · rw [q]; exact j6
                              · rw [q]; exact j7
                              · rw [q]; exact hM'.2.2.1
                            · exact hws w q)
                          refine zz_calledX (fun _ _ _ z => z) (vx_runV (C := M'.1.1.cls) (b := zz_a B O b) (As := ((st.take nb).reverse).map (zz_v B O)) (rest := zz_s B O rest) ⟨hx, hb, hml, hown, hts⟩ hMet (cwV nb hts hgw hcw0 rfl rfl ⟨rfl, hM'.2.2.2.2.1.1, hM'.2.2.2.2.1.2, j8⟩ hroom) ⟨hblind, hrecv, hpre⟩ rfl hn hl.1 rfl hcat hdec hfit) hR ?_
                          intro H1 locs1 q9 ce hR1 hce hcv hcl
                          rw [show h.length - L0 + (h1.length - h.length) = h1.length - L0 by omega, show zz_sl nf h - S0 + (zz_sl nf h1 - zz_sl nf h) = zz_sl nf h1 - S0 by omega]
                          rcases h5 with h5 | h5
                          · -- it goes on to the caller
                            rw [if_pos h5] at hr
                            cases hr
                            refine vx_out (E := zz_ise) (by rw [hpt]; exact hokT.2.2.1 rfl h5) hlk hce hcv hcl (fun t ht hal => ⟨rfl, by rw [ht]; exact hR1.1, by rw [ht]; exact hR1.2.2.1, hR1.2.2.2.1, hR1.2.1.F ht⟩) hR1.2.1.2.2 (Nat.le_refl _) (Nat.le_refl _)
                          · -- it is caught here
                            rw [if_neg (by omega), if_pos h5] at hr
                            cases hr
                            obtain ⟨xe, y1, y2, y3, y4, y5, y6, k9, y7, y8, y9⟩ := hokT.2.2.2 rfl h5
                            refine vx_catch hown [] xe [] (by rw [hpt, y1]; rfl) (fun z hz => by cases hz) y2 y3 (hts _ y4) (va_Nw.use rfl (hN _ y5)) hce hcv hcl ?_
                            refine lv_astore hx hb y8 hl y7 rfl (fun ls1 hl1 => ?_)
                            exact W.vret hx hb (by rw [hret, y6]) (fun t ht hW => ⟨rfl, by rw [ht]; exact hR1.1, by rw [ht]; exact hR1.2.2.1, hR1.2.2.2.1, hR1.2.1.F ht⟩) hR1.2.1.2.2 y9 (hlocks := hlk)
                        · cases hsite
                      · cases hsite
                    · cases hsite
                · cases hr
end ZM
