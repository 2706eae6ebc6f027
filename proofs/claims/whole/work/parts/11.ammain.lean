section ZM
variable {l : Launch} {B : Nat} {O : Nat → Nat} {D : va_G} {cl : List vw_C} {dA : Nat → ClassId} {Ts NW : List Cond} {tf : Nat → Nat → FieldType} {fd : Nat → List Value} {nf : Nat → Nat} {X : Nat → Option zz_C} {P : Nat → Option zz_M} {hh : MethodName → List (Nat × Nat × Nat × Nat)}
/-- what is claimed of a run -/
def zz_Snd (hh : MethodName → List (Nat × Nat × Nat × Nat)) (l : Launch) (P : Nat → Option zz_M) (cl : List vw_C) (tf : Nat → Nat → FieldType) (fd : Nat → List Value) (nf : Nat → Nat) (Ts NW : List Cond) (D : va_G) (B : Nat) (O : Nat → Nat) (dA : Nat → ClassId) (X : Nat → Option zz_C) (n : Nat) : Prop := ∀ (d : Nat) (M : zz_M) (pc : Nat) (lv : List (Nat × Value)) (st : List Value) (h hf : zz_H) (v : Option Value), zz_run P tf fd X n d M pc lv st h = some (v, hf) → zz_okW hh P cl tf fd nf Ts NW M →
  ∀ (p : Program) (e : Env) (R : Room) (s : State) (m : MethodId) (args : Array Value) (below : List Frame) (meth : Method) (c : Code) (H : Heap) (locs : List Loc) (ls : Array Slot) (L0 S0 : Nat),
    p.tables.exec = Jvm.exec → c.code = M.1.2.1 → meth.sig.returnType = M.1.2.2.2 → meth.locks = false → c.maxLocals = M.1.2.2.1 → s.vm.findClass M.1.1.cls = some m.cls → (M.1.1.name = "<init>" → meth.name = "<init>") → (∀ w ∈ Ts, w.before args s = true) → va_K D cl (zz_tys dA) s → (∀ w ∈ NW, va_Nw w s) → zz_X s B O X s.heap →
    zz_R D cl B O dA s.heap locs h H → lv_has ls M.1.2.2.1 (zz_l B O lv) → L0 ≤ h.length → S0 ≤ zz_sl nf h → hf.length - L0 ≤ R.cells → zz_sl nf hf - S0 ≤ R.slots → d ≤ R.frames → 64 * d ≤ R.locals →
    W p l e R s m args below meth c H locs (h.length - L0) (zz_sl nf h - S0) (MQ below (zz_Qc D cl B O dA v hf) args s (hf.length - L0) (zz_sl nf hf - S0) (fun q => B ≤ q)) (F0 m pc ls (zz_s B O st))
set_option maxHeartbeats 4000000 in
/-- a callee's contract out of its run -/
theorem zz_met {n : Nat} (ih : zz_Snd hh l P cl tf fd nf Ts NW D B O dA X n) {d : Nat} {M : zz_M} {as : List Value} {h h1 : zz_H} {v1 : Option Value} (hc : zz_run P tf fd X n d M 0 (lv_args 0 as) [] h = some (v1, h1)) (hM : zz_okM hh P cl tf fd nf Ts NW M) (hw : zz_words as ≤ M.1.2.2.1) :
    Met l M.1.1 (zz_cw hh M :: Ts) (zz_rm d (h1.length - h.length) (zz_sl nf h1 - zz_sl nf h)) (zz_Pc D cl B O dA NW X as h) (zz_Qc D cl B O dA v1 h1) (h1.length - h.length) (zz_sl nf h1 - zz_sl nf h) (fun q => B ≤ q) := by
  have body : ∀ p e s m args below meth c s₁, BodyLoose p l M.1.1 (headSpec (zz_cw hh M :: Ts) (zz_rm d (h1.length - h.length) (zz_sl nf h1 - zz_sl nf h))) M.1.2.1 M.1.2.2.1 M.1.2.2.2 e s m args below meth c s₁ → c.maxLocals = M.1.2.2.1 → zz_Pc D cl B O dA NW X as h args s →
      W p l e (headSpec (zz_cw hh M :: Ts) (zz_rm d (h1.length - h.length) (zz_sl nf h1 - zz_sl nf h))).room s m args below meth c s.heap [] 0 0 (MQ below (zz_Qc D cl B O dA v1 h1) args s (h1.length - h.length) (zz_sl nf h1 - zz_sl nf h) (fun q => B ≤ q)) (entryFrame m args M.1.2.2.1) := by
    intro p e s m args below meth c s₁ Bd hml hv
    obtain ⟨rfl, hP, hz, hlen, hK, hN, hX⟩ := hv
    have hx := Bd.exec
    have hb := Bd.bytes
    have hr := Bd.returns
    have hts := atoms_spec (ws := zz_cw hh M :: Ts) Bd.pre
    have hown : s.vm.findClass M.1.1.cls = some m.cls := findClass_of_methodNamed Bd.named
    have hlk := Bd.notSynchronized
    have hnm : M.1.1.name = "<init>" → meth.name = "<init>" := fun q => (name_of_methodNamed Bd.named Bd.method).1.trans q
    have hl := lv_entry (as.map (zz_v B O)) (n := M.1.2.2.1) (by rw [zz_words_sl, zz_words_v]; exact hw)
    rw [lg_entry_eq]
    generalize (lg_sl (as.map (zz_v B O)) ++ List.replicate (M.1.2.2.1 - (lg_sl (as.map (zz_v B O))).length) Slot.unset).toArray = ls at hl ⊢
    have := ih d M 0 (lv_args 0 as) [] h h1 v1 hc hM.1 p e (headSpec (zz_cw hh M :: Ts) (zz_rm d (h1.length - h.length) (zz_sl nf h1 - zz_sl nf h))).room s m (as.map (zz_v B O)).toArray below meth c s.heap [] ls h.length (zz_sl nf h) hx hb hr hlk hml hown hnm (fun w hw => hts w (List.mem_cons_of_mem _ hw)) hK hN hX ⟨hP, va_S.rf, hz, hlen, by rw [hz]; exact Nat.le_add_right _ _⟩ (by rw [zz_args_v]; exact hl) (Nat.le_refl _) (Nat.le_refl _) (Nat.le_refl _) (Nat.le_refl _) (Nat.le_refl _) (Nat.le_refl _)
    rw [Nat.sub_self, Nat.sub_self] at this
    exact this
  cases hq : hh M.1.1 with
  | nil => exact Met.ofW (cc := M.1.2.1) (maxL := M.1.2.2.1) (ret := M.1.2.2.2) (ws' := Ts) hM.2.2.2.1 (by unfold zz_cw; rw [hq]) body
  | cons q9 l9 => exact va_MetW (cc := M.1.2.1) (maxL := M.1.2.2.1) (ret := M.1.2.2.2) (hh := q9 :: l9) (ws' := Ts) hM.2.2.2.1 (by unfold zz_cw; rw [hq]) body
theorem zz_sum_v (B : Nat) (O : Nat → Nat) (v : Option Value) (rest : List Value) : (v.map (zz_v B O)).toList ++ zz_s B O rest = zz_s B O (v.toList ++ rest) := by
  cases v <;> rfl
theorem zz_split {B : Nat} {O : Nat → Nat} {n : Nat} {st rest : List Value} (h : st.drop n = rest) : zz_s B O st = (((st.take n).reverse).map (zz_v B O)).reverse ++ zz_s B O rest := by
  conv => lhs; rw [← List.take_append_drop n st, h]
  unfold zz_s
  rw [List.map_append, List.map_reverse, List.reverse_reverse]
set_option maxHeartbeats 4000000 in
theorem zz_sound (hSt : zz_St hh P cl tf fd nf Ts NW) : ∀ n : Nat, zz_Snd hh l P cl tf fd nf Ts NW D B O dA X n := by
  obtain ⟨hG, hgood, hNk, ⟨q7, hc7, hq7⟩, hok⟩ := hSt
  intro n
  induction n with
  | zero => intro d M pc lv st h hf v hr; cases hr
  | succ n ih =>
    intro d M pc lv st h hf v hr hM p e R s m args below meth c H locs ls L0 S0 hx hb hret hlk hml hown hnm hts hK hN hX hR hl hL0 hS0 hRc hRs hRf hRl
    unfold zz_run at hr
    split at hr
    · cases hr
    · rename_i r hrow
      obtain ⟨⟨cr, hcr, hmem⟩, hpc⟩ := zz_row_ok hrow
      obtain ⟨hdec, hokR, hokC⟩ := hM cr hcr r hmem
      rw [hpc] at hdec
      split at hr
      · -- an instruction
        split at hr
        · rename_i f' h' hs
          obtain ⟨pc', lv', st'⟩ := f'
          have hmo := zz_run_mono nf _ _ _ _ _ _ _ _ _ hr
          have hm1 := zz_step1_mono nf hs
          refine zz_step1_ok hx hb hts hG hown hK hN hc7 hq7 hX hR hl hdec hnm hokR hs hL0 hS0 (by omega) (by omega) (fun H1 locs1 ls1 hR1 hl1 => ?_)
          exact ih d M pc' lv' st' h' hf v hr hM p e R s m args below meth c H1 locs1 ls1 L0 S0 hx hb hret hlk hml hown hnm hts hK hN hX hR1 hl1 (by omega) (by omega) hRc hRs hRf hRl
        · cases hr
      · -- a return
        obtain ⟨pc0, ins, ln, na, nb, nn⟩ := r
        simp only at hr hdec
        have hQ : ∀ t : State, t.heap = H → va_P D cl (zz_w B O dA h) t.heap ∧ t.heap.size = B + h.length ∧ h.length ≤ zz_out ∧ va_F (fun q => B ≤ q) s t := fun t ht => ⟨by rw [ht]; exact hR.1, by rw [ht]; exact hR.2.2.1, hR.2.2.2.1, hR.2.1.F ht⟩
        have hs := zz_ret_same hr
        subst hs
        unfold zz_ret at hr
        split at hr
        · split at hr
          · rename_i v0
            split at hr
            · rename_i e0
              obtain ⟨e0, e1⟩ := e0
              subst e0
              cases hr
              unfold zz_reti at e1
              split at e1
              · rename_i hty
                exact W.iret hx hb (by rw [hret, hty]) (fun t ht hW => ⟨rfl, hQ t ht⟩) hR.2.1.2.2 hdec (hlocks := hlk)
              · rename_i hty
                exact W.zret (ty := .boolean) hx hb (by rw [hret, hty]) (by
                  simp at e1
                  rcases e1 with e1 | e1 <;> subst e1 <;> rfl) (fun t ht hW => ⟨rfl, hQ t ht⟩) hR.2.1.2.2 hdec (hlocks := hlk)
              · cases e1
            · cases hr
          · cases hr
        · split at hr
          · rename_i v0
            split at hr
            · rename_i e0
              obtain ⟨e0, e1⟩ := e0
              subst e0
              cases hr
              exact W.lret hx hb (by rw [hret, e1]) (fun t ht hW => ⟨rfl, hQ t ht⟩) hR.2.1.2.2 hdec (hlocks := hlk)
            · cases hr
          · cases hr
        · split at hr
          · rename_i v0
            split at hr
            · rename_i e0
              obtain ⟨e0, e1⟩ := e0
              subst e0
              cases hr
              unfold zz_retr at e1
              split at e1
              · rename_i C hty
                exact W.aret (rt := .object C) hx hb (by rw [hret, hty]) (Or.inl ⟨_, rfl⟩) (Or.inr ⟨_, rfl⟩) (fun t ht hW => ⟨rfl, hQ t ht⟩) hR.2.1.2.2 hdec (hlocks := hlk)
              · rename_i C hty
                exact W.aret (rt := .array C) hx hb (by rw [hret, hty]) (Or.inr ⟨_, rfl⟩) (Or.inr ⟨_, rfl⟩) (fun t ht hW => ⟨rfl, hQ t ht⟩) hR.2.1.2.2 hdec (hlocks := hlk)
              · cases e1
            · cases hr
          · cases hr
        · split at hr
          · split at hr
            · rename_i e0
              obtain ⟨e0, e1⟩ := e0
              subst e0
              cases hr
              exact W.vret hx hb (by rw [hret, e1]) (fun t ht hW => ⟨rfl, hQ t ht⟩) hR.2.1.2.2 hdec (hlocks := hlk)
            · cases hr
          · cases hr
        · cases hr
      · -- a call
        split at hr
        · cases hr
        · rename_i d'
          split at hr
          · rename_i hnn
            split at hr
            · rename_i st1 h1 hs
              split at hr
              · rename_i hln
                obtain ⟨pc0, ins, ln, na, nb, nn⟩ := r
                simp only at hr hdec hs hln hnn
                subst hln
                unfold zz_spec at hs
                split at hs
                · rename_i idx z1 z2
                  split at hs
                  · rename_i b rest
                    split at hs
                    · rename_i hct
                      obtain ⟨hct, hn1⟩ := hct
                      subst hn1
                      cases hs
                      have hokC : Cond.methodLink M.1.1.cls idx Lib.objectInit ∈ Ts ∧ Cond.instanceMethod Lib.objectInit ∈ Ts ∧ Cond.code Lib.objectInit ⟨#[0xb1]⟩ 1 none ∈ Ts := by
                        have := hokC
                        simp only [zz_okC, if_true] at this
                        exact this
                      refine W.objInit hx hb hown (hts _ hokC.1) (hts _ hokC.2.1) (hts _ hokC.2.2) rfl (by rw [hml]; exact hl.1) rfl hdec (by omega) ?_ ?_
                      · show 2 * 0 + ((zz_s B O st1).map fun v => v.category).sum + 12 ≤ R.locals
                        rw [zz_cats_v]
                        omega
                      · exact ih (d' + 1) M (pc + 3) lv st1 h hf v hr hM p e R s m args below meth c H locs ls L0 S0 hx hb hret hlk hml hown hnm hts hK hN hX hR hl hL0 hS0 hRc hRs hRf hRl
                    · cases hs
                  · cases hs
                · rename_i idx z1 z2
                  split at hs
                  · rename_i hn1
                    subst hn1
                    have hokC : Cond.methodLink M.1.1.cls idx arraycopyName ∈ Ts ∧ Cond.native arraycopyName ∈ Ts ∧ Cond.static arraycopyName ∈ Ts ∧ Cond.initialized "java/lang/System" ∈ Ts := by
                      have := hokC
                      simp only [zz_okC, if_true] at this
                      exact this
                    have hmo := zz_acp_mono nf hs
                    have hmo2 := zz_run_mono nf _ _ _ _ _ _ _ _ _ hr
                    refine zz_acp_ok hx hb (by rw [hml]; exact hl.1.symm) hts hown hK hR hokC.1 hokC.2.1 hokC.2.2.1 hokC.2.2.2 (by omega) (by omega) hdec hs (fun H1 locs1 hR1 => ?_)
                    have := ih (d' + 1) M (pc + 3) lv st1 h1 hf v hr hM p e R s m args below meth c H1 locs1 ls L0 S0 hx hb hret hlk hml hown hnm hts hK hN hX hR1 hl (by omega) (by omega) hRc hRs hRf hRl
                    rw [hmo.1, hmo.2] at this
                    exact this
                  · rename_i hn9
                    split at hs
                    · rename_i st2 hm
                      have hst2 : st1 = st2 ∧ h1 = h := by cases hs; exact ⟨rfl, rfl⟩
                      obtain ⟨rfl, rfl⟩ := hst2
                      have hmo2 := zz_run_mono nf _ _ _ _ _ _ _ _ _ hr
                      have hgo1 : ∀ st3 : List Value, st1 = st3 → W p l e R s m args below meth c H locs (h1.length - L0) (zz_sl nf h1 - S0) (MQ below (zz_Qc D cl B O dA v hf) args s (hf.length - L0) (zz_sl nf hf - S0) (fun q => B ≤ q)) (F0 m (pc + 3) ls (zz_s B O st3)) := fun st3 q => by
                        subst q
                        exact ih (d' + 1) M (pc + 3) lv st1 h1 hf v hr hM p e R s m args below meth c H locs ls L0 S0 hx hb hret hlk hml hown hnm hts hK hN hX hR hl hL0 hS0 hRc hRs hRf hRl
                      clear hs
                      unfold zz_math at hm
                      split at hm
                      · rename_i hn4
                        subst hn4
                        split at hm
                        · rename_i x rest
                          split at hm
                          · rename_i hct
                            cases hm
                            have hB : zz_mB Ts M.1.1.cls idx Lib.MathLoose.abs_long.x Lib.MathLoose.abs_long.code 2 .long := hokC
                            have hcv := zz_cats_v B O rest
                            exact va_mabs_long (rest := zz_s B O rest) hx hb (by rw [hml]; exact hl.1.symm) hown (hts _ hB.1) (hts _ hB.2.1) (hts _ hB.2.2.1) (hts _ hB.2.2.2) (by omega) (by rw [hcv]; omega) (by omega) (by omega) hdec (hgo1 _ rfl)
                          · cases hm
                        · cases hm
                      · split at hm
                        · rename_i y x rest
                          split at hm
                          · rename_i hct
                            obtain ⟨hct, hn1⟩ := hct
                            subst hn1
                            cases hm
                            have hB : zz_mB Ts M.1.1.cls idx Lib.Math.min.name Lib.Math.min.code 2 .int := hokC
                            have hcv := zz_cats_v B O rest
                            exact va_mmin (rest := zz_s B O rest) hx hb (by rw [hml]; exact hl.1.symm) hown (hts _ hB.1) (hts _ hB.2.1) (hts _ hB.2.2.1) (hts _ hB.2.2.2) (by omega) (by rw [hcv]; omega) (by omega) (by omega) hdec (hgo1 _ rfl)
                          · split at hm
                            · rename_i hct
                              obtain ⟨hct, hn1⟩ := hct
                              subst hn1
                              cases hm
                              have hB : zz_mB Ts M.1.1.cls idx Lib.Math.max.name Lib.Math.max.code 2 .int := hokC
                              have hcv := zz_cats_v B O rest
                              exact va_mmax (rest := zz_s B O rest) hx hb (by rw [hml]; exact hl.1.symm) hown (hts _ hB.1) (hts _ hB.2.1) (hts _ hB.2.2.1) (hts _ hB.2.2.2) (by omega) (by rw [hcv]; omega) (by omega) (by omega) hdec (hgo1 _ rfl)
                            · cases hm
                        · rename_i y x rest
                          split at hm
                          · rename_i hct
                            obtain ⟨hct, hn1⟩ := hct
                            subst hn1
                            cases hm
                            have hB : zz_mB Ts M.1.1.cls idx Lib.MathLoose.min_long.x Lib.MathLoose.min_long.code 4 .long := hokC
                            have hcv := zz_cats_v B O rest
                            exact va_mmin_long (rest := zz_s B O rest) hx hb (by rw [hml]; exact hl.1.symm) hown (hts _ hB.1) (hts _ hB.2.1) (hts _ hB.2.2.1) (hts _ hB.2.2.2) (by omega) (by rw [hcv]; omega) (by omega) (by omega) hdec (hgo1 _ rfl)
                          · split at hm
                            · rename_i hct
                              obtain ⟨hct, hn1⟩ := hct
                              subst hn1
                              cases hm
                              have hB : zz_mB Ts M.1.1.cls idx Lib.MathLoose.max_long.x Lib.MathLoose.max_long.code 4 .long := hokC
                              have hcv := zz_cats_v B O rest
                              exact va_mmax_long (rest := zz_s B O rest) hx hb (by rw [hml]; exact hl.1.symm) hown (hts _ hB.1) (hts _ hB.2.1) (hts _ hB.2.2.1) (hts _ hB.2.2.2) (by omega) (by rw [hcv]; omega) (by omega) (by omega) hdec (hgo1 _ rfl)
                            · cases hm
                        · cases hm
                    · cases hs
                · cases hs
              · cases hr
            · cases hr
          · rename_i hnn
            split at hr
            · cases hr
            · rename_i as rest hsite
              split at hr
              · cases hr
              · rename_i M' hP'
                split at hr
                · rename_i hlw
                  obtain ⟨hln, hw⟩ := hlw
                  split at hr
                  · cases hr
                  · rename_i v1 h1 hc
                    have hM' := hok _ _ hP'
                    have hMet := zz_met ih hc hM' hw
                    have m1 := zz_run_mono nf _ _ _ _ _ _ _ _ _ hc
                    have m2 := zz_run_mono nf _ _ _ _ _ _ _ _ _ hr
                    obtain ⟨pc0, ins, ln, na, nb, nn⟩ := r
                    simp only at hr hdec hsite hln hnn hP'
                    subst hln
                    have hfit : (h.length - L0) + (h1.length - h.length) ≤ R.cells ∧ (zz_sl nf h - S0) + (zz_sl nf h1 - zz_sl nf h) ≤ R.slots := ⟨by omega, by omega⟩
                    have hroom : (zz_rm d' (h1.length - h.length) (zz_sl nf h1 - zz_sl nf h)).frames + 1 ≤ R.frames ∧ 8 + (M'.1.2.2.1 + 11) + (zz_rm d' (h1.length - h.length) (zz_sl nf h1 - zz_sl nf h)).locals ≤ R.locals := ⟨hRf, by have := hM'.2.2.2.2.2; show 8 + (M'.1.2.2.1 + 11) + 64 * d' ≤ R.locals; omega⟩
                    have hblind : FrameBlind (zz_Pc D cl B O dA NW X as h) := zz_blind hNk
                    have hpre : ∀ U : State, U.heap = H → s.WarmedH U.vm → zz_Pc D cl B O dA NW X as h (as.map (zz_v B O)).toArray U := fun U hU hW => ⟨rfl, by rw [hU]; exact hR.1, by rw [hU]; exact hR.2.2.1, hR.2.2.2.1, va_K.moved hW.alike hK, fun w hw => zz_Nw_warm (hNk w hw) hW (hN w hw), by rw [hU]; exact (hX.kept (fun q hq => hR.2.1.2.1 q (Nat.lt_of_lt_of_le hq hR.2.2.2.2) (Nat.not_le.mpr hq))).moved hW.alike⟩
                    have hws : ∀ w ∈ zz_cw hh M' :: Ts, w ∈ Ts := fun w hw => by
                      rcases List.mem_cons.mp hw with q | q
                      · rw [q]; exact hM'.2.1
                      · exact q
                    have hgo : ∀ (H1 : Heap) (locs1 : List Loc), zz_R D cl B O dA s.heap locs1 h1 H1 → W p l e R s m args below meth c H1 locs1 (h.length - L0 + (h1.length - h.length)) (zz_sl nf h - S0 + (zz_sl nf h1 - zz_sl nf h)) (MQ below (zz_Qc D cl B O dA v hf) args s (hf.length - L0) (zz_sl nf hf - S0) (fun q => B ≤ q)) (F0 m (pc + 3) ls ((v1.map (zz_v B O)).toList ++ zz_s B O rest)) := fun H1 locs1 hR1 => by
                      rw [zz_sum_v, show h.length - L0 + (h1.length - h.length) = h1.length - L0 by omega, show zz_sl nf h - S0 + (zz_sl nf h1 - zz_sl nf h) = zz_sl nf h1 - S0 by omega]
                      exact ih (d' + 1) M (pc + 3) lv (v1.toList ++ rest) h1 hf v hr hM p e R s m args below meth c H1 locs1 ls L0 S0 hx hb hret hlk hml hown hnm hts hK hN hX hR1 hl (by omega) (by omega) hRc hRs hRf hRl
                    have hcw0 : hh M'.1.1 = [] → zz_cw hh M' :: Ts = Cond.code M'.1.1 M'.1.2.1 M'.1.2.2.1 M'.1.2.2.2 :: Ts := fun q => by unfold zz_cw; rw [q]
                    unfold zz_site at hsite
                    split at hsite
                    · -- static
                      rename_i idx z1 z2
                      split at hsite
                      · rename_i e0
                        obtain ⟨e0, e1⟩ := e0
                        cases hsite
                        have hn6 : ¬ nn = -1 ∧ ¬ nn = -2 ∧ ¬ nn = -3 ∧ ¬ nn = -4 ∧ ¬ nn = -5 ∧ ¬ nn = -6 := ⟨by omega, by omega, by omega, by omega, by omega, by omega⟩
                        have hokC : ∃ M2 : zz_M, P na = some M2 ∧ (parseMethodDescriptor M2.1.1.desc).map (fun d => d.parameters.length) = some nb ∧ hh M2.1.1 = [] ∧ Cond.static M2.1.1 ∈ Ts ∧ ((Cond.methodLink M.1.1.cls idx M2.1.1 ∈ Ts) ∨ (hh M2.1.1 = [] ∧ ∃ host, Cond.methodLinkNest M.1.1.cls idx M2.1.1 host ∈ NW)) := by
                          have := hokC
                          simp only [zz_okC] at this
                          rw [if_neg hn6.1, if_neg hn6.2.1, if_neg hn6.2.2.1, if_neg hn6.2.2.2.1, if_neg hn6.2.2.2.2.1, if_neg hn6.2.2.2.2.2] at this
                          exact this
                        obtain ⟨M2, g1, g2, g9, g3, g4⟩ := hokC
                        rw [hP'] at g1
                        cases g1
                        rw [zz_split (B := B) (O := O) (n := nb) (st := st) rfl]
                        have hn : (((st.take nb).reverse).map (zz_v B O)).length = nb := by simp; omega
                        have hcat : 2 * (F0 m pc ls ((((st.take nb).reverse).map (zz_v B O)).reverse ++ zz_s B O (st.drop nb))).monitorRoom + ((zz_s B O (st.drop nb)).map fun v => v.category).sum ≤ 8 := by
                          show 2 * 0 + _ ≤ 8
                          rw [zz_cats_v]; omega
                        rcases g4 with g4 | ⟨-, host, g4⟩
                        · exact zz_called (va_runS (As := ((st.take nb).reverse).map (zz_v B O)) (rest := zz_s B O (st.drop nb)) ⟨hx, hb, hml, hown, hts⟩ hMet (va_cwS nb hts (zz_good hgood (fun w hw => by
                            rcases List.mem_append.mp hw with q | q
                            · simp only [List.mem_cons, List.mem_nil_iff, or_false] at q
                              rcases q with q | q | q
                              · rw [q]; exact g4
                              · rw [q]; exact g3
                              · rw [q]; exact hM'.2.2.1
                            · exact hws w q)) (hcw0 g9) rfl rfl ⟨hM'.2.2.2.2.1.1, hM'.2.2.2.2.1.2, g2⟩ hroom) ⟨hblind, hpre⟩ rfl hn hl.1 rfl hcat hdec hfit) hR hgo
                        · exact zz_called (va_runSN (As := ((st.take nb).reverse).map (zz_v B O)) (rest := zz_s B O (st.drop nb)) ⟨hx, hb, hml, hown, hts⟩ hMet ⟨va_cnB nb hts (zz_good hgood hws) (hcw0 g9) rfl rfl (hN _ g4) (hts _ hM'.2.2.1) ⟨hM'.2.2.2.2.1.1, hM'.2.2.2.2.1.2, g2⟩ hroom, hts _ g3, trivial⟩ ⟨hblind, hpre⟩ rfl hn hl.1 rfl hcat hdec hfit) hR hgo
                      · cases hsite
                    · -- virtual
                      rename_i idx z1 z2
                      split at hsite
                      · rename_i b rest2 hdrop
                        split at hsite
                        · rename_i ci fs hb9
                          split at hsite
                          · rename_i e0
                            obtain ⟨e0, e1, e2⟩ := e0
                            cases hsite
                            obtain ⟨M2, g1, g2, g3, g4, g5, g6⟩ := hokC
                            have g1 : P na = some M2 := g1
                            have g2 : (parseMethodDescriptor M2.1.1.desc).map (fun d => d.parameters.length) = some nb := g2
                            rw [hP'] at g1
                            cases g1
                            obtain ⟨hb1, hb2⟩ := zz_at_ok hb9
                            rw [zz_split (B := B) (O := O) (n := nb) (st := st) hdrop]
                            have hn : (((st.take nb).reverse).map (zz_v B O)).length = nb := by simp; omega
                            have hcat : 2 * (F0 m pc ls ((((st.take nb).reverse).map (zz_v B O)).reverse ++ zz_s B O (.ref b :: rest))).monitorRoom + ((zz_s B O rest).map fun v => v.category).sum ≤ 8 := by
                              show 2 * 0 + _ ≤ 8
                              rw [zz_cats_v]; omega
                            have hrecv : ∃ cellB : Cell, H[zz_a B O b]? = some cellB ∧ cellB.vm.isStatics = false ∧ s.vm.findClass M'.1.1.cls = some cellB.cls := by
                              obtain ⟨q9, k1, cell, k2, k3, k4, -⟩ := hR.1 b _ (zz_w_at hb2)
                              refine ⟨cell, by rw [zz_a_in hb1]; exact k2, by rw [k4]; rfl, ?_⟩
                              rw [k3, ← g5 ci q9 e2 k1]
                              exact (hK.1 ci q9 k1).2.1
                            rcases g6 with g6 | ⟨g9, host, g6⟩
                            · have hgw : GoodIn Ts (wsV M.1.1.cls idx M'.1.1.cls M'.1.1 (zz_cw hh M' :: Ts)) := zz_good hgood (fun w hw => by
                                rcases List.mem_append.mp hw with q | q
                                · simp only [List.mem_cons, List.mem_nil_iff, or_false] at q
                                  rcases q with q | q | q | q
                                  · rw [q]; exact g6
                                  · rw [q]; exact g3
                                  · rw [q]; exact g4
                                  · rw [q]; exact hM'.2.2.1
                                · exact hws w q)
                              cases hq9 : hh M'.1.1 with
                              | nil => exact zz_called (va_runV (C := M'.1.1.cls) (b := zz_a B O b) (As := ((st.take nb).reverse).map (zz_v B O)) (rest := zz_s B O rest) ⟨hx, hb, hml, hown, hts⟩ hMet (cwV nb hts hgw (hcw0 hq9) rfl rfl ⟨rfl, hM'.2.2.2.2.1.1, hM'.2.2.2.2.1.2, g2⟩ hroom) ⟨hblind, hrecv, hpre⟩ rfl hn hl.1 rfl hcat hdec hfit) hR hgo
                              | cons q9 l9 => exact zz_called (vx_runVW (C := M'.1.1.cls) (b := zz_a B O b) (As := ((st.take nb).reverse).map (zz_v B O)) (rest := zz_s B O rest) ⟨hx, hb, hml, hown, hts⟩ hMet (vx_cwVW (hh := q9 :: l9) nb hts hgw (by unfold zz_cw; rw [hq9]) rfl rfl ⟨rfl, hM'.2.2.2.2.1.1, hM'.2.2.2.2.1.2, g2⟩ hroom) ⟨hblind, hrecv, hpre⟩ rfl hn hl.1 rfl hcat hdec hfit) hR hgo
                            · exact zz_called (va_runVN (C := M'.1.1.cls) (b := zz_a B O b) (As := ((st.take nb).reverse).map (zz_v B O)) (rest := zz_s B O rest) ⟨hx, hb, hml, hown, hts⟩ hMet ⟨va_cnB nb hts (zz_good hgood hws) (hcw0 g9) rfl rfl (hN _ g6) (hts _ hM'.2.2.1) ⟨hM'.2.2.2.2.1.1, hM'.2.2.2.2.1.2, g2⟩ hroom, hts _ g3, hts _ g4⟩ ⟨hblind, hrecv, hpre⟩ rfl hn hl.1 rfl hcat hdec hfit) hR hgo
                          · cases hsite
                        · cases hsite
                      · cases hsite
                    · -- a constructor
                      rename_i idx z1 z2
                      split at hsite
                      · rename_i b rest2 hdrop
                        split at hsite
                        · rename_i e0
                          obtain ⟨e0, e1⟩ := e0
                          cases hsite
                          have hokC : ∃ M2 : zz_M, P na = some M2 ∧ (parseMethodDescriptor M2.1.1.desc).map (fun d => d.parameters.length) = some nb ∧ M2.1.1.name = "<init>" ∧ M2.1.2.2.2 = none ∧ hh M2.1.1 = [] ∧ Cond.instanceMethod M2.1.1 ∈ Ts ∧ ((Cond.methodLink M.1.1.cls idx M2.1.1 ∈ Ts) ∨ (hh M2.1.1 = [] ∧ ∃ host, Cond.methodLinkNest M.1.1.cls idx M2.1.1 host ∈ NW)) := by
                            have := hokC
                            simp only [zz_okC] at this
                            rw [if_neg (show ¬ nn = -1 by omega)] at this
                            exact this
                          obtain ⟨M2, g1, g2, g3, g4, g9, g5, g6⟩ := hokC
                          rw [hP'] at g1
                          cases g1
                          rw [zz_split (B := B) (O := O) (n := nb) (st := st) hdrop]
                          have hn : (((st.take nb).reverse).map (zz_v B O)).length = nb := by simp; omega
                          have hcat : 2 * (F0 m pc ls ((((st.take nb).reverse).map (zz_v B O)).reverse ++ zz_s B O (.ref b :: rest))).monitorRoom + ((zz_s B O rest).map fun v => v.category).sum ≤ 8 := by
                            show 2 * 0 + _ ≤ 8
                            rw [zz_cats_v]; omega
                          have hcw1 : zz_cw hh M' :: Ts = Cond.code M'.1.1 M'.1.2.1 M'.1.2.2.1 none :: Ts := by rw [hcw0 g9, g4]
                          rcases g6 with g6 | ⟨-, host, g6⟩
                          · exact zz_called (va_runI (bytes := M'.1.2.1) (maxL := M'.1.2.2.1) (b := zz_a B O b) (As := ((st.take nb).reverse).map (zz_v B O)) (rest := zz_s B O rest) ⟨hx, hb, hml, hown, hts⟩ hMet (cwI nb hts (zz_good hgood hws) hcw1 rfl rfl (hts _ hM'.2.2.1) (hts _ g6) (hts _ g5) g3 ⟨hM'.2.2.2.2.1.1, hM'.2.2.2.2.1.2, g2⟩ hroom) ⟨hblind, hpre⟩ rfl hn hl.1 rfl hcat hdec hfit) hR hgo
                          · exact zz_called (va_runIN (bytes := M'.1.2.1) (maxL := M'.1.2.2.1) (b := zz_a B O b) (As := ((st.take nb).reverse).map (zz_v B O)) (rest := zz_s B O rest) ⟨hx, hb, hml, hown, hts⟩ hMet ⟨va_cnB nb hts (zz_good hgood hws) hcw1 rfl rfl (hN _ g6) (hts _ hM'.2.2.1) ⟨hM'.2.2.2.2.1.1, hM'.2.2.2.2.1.2, g2⟩ hroom, g3, hts _ g5⟩ ⟨hblind, hpre⟩ rfl hn hl.1 rfl hcat hdec hfit) hR hgo
                        · cases hsite
                      · cases hsite
                    · cases hsite
                · cases hr
end ZM
