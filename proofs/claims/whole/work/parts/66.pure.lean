/-! ===== PURE: same (the reference's): the stack gone over ===== -/
section SAB
variable {N : Nat} {R R' : Nat → Prop}
theorem fD_nxt {s : mS} {d i : Nat} : fD s (nxt s d i) := ⟨fun _ _ => rfl, fun _ _ => rfl, fun q r => if_neg (fun z => r (Or.inr (Or.inr z))), fun _ _ => rfl⟩
theorem fD_gin {s : mS} {d a b : Nat} : fD s (gin s d a b) := by
  refine ⟨fun q r => if_neg r, fun _ _ => rfl, fun q r => ?_, fun _ _ => rfl⟩
  show (if q = 54 then _ else if q = 53 then _ else if q = 52 then _ else s.2.2.1 q) = _
  rw [if_neg (fun z => r (Or.inr (Or.inr z))), if_neg (fun z => r (Or.inr (Or.inl z))), if_neg (fun z => r (Or.inl z))]
/-- what is told of going over the parts of both from i on -/
def sdR (N n : Nat) (l l' : List (Th n)) (i d : Nat) (s : mS) : Prop := ∃ k s', k ≤ 2 * ((l.drop i).map (bulk n)).sum + 2 ∧ fD s s' ∧ ((l.drop i).map (ser n) = (l'.drop i).map (ser n) → k ≤ 2 * ((l.drop i).map (bulk n)).sum + 1 ∧ (∀ f, mf_346_L1 N (f + k) 0 1 s = mf_346_L1 N f 0 1 s') ∧ s'.1 55 = Int32.ofNat d ∧ ∀ j, j < d → s'.2.2.1 52 j = s.2.2.1 52 j ∧ s'.2.2.1 53 j = s.2.2.1 53 j ∧ s'.2.2.1 54 j = s.2.2.1 54 j) ∧ (¬ (l.drop i).map (ser n) = (l'.drop i).map (ser n) → ∀ f, mf_346_L1 N (f + k) 0 1 s = some (s', some (.int 0)))
theorem sd_no {n i d k1 : Nat} {l l' : List (Th n)} {s s1 : mS} (hi : i < l.length) (hi' : i < l'.length) (hst : ∀ f, mf_346_L1 N (f + k1) 0 1 s = mf_346_L1 N f 0 0 s1) (hk : k1 ≤ 2 * bulk n l[i] + 1) (hf : fD s s1) (hn : ¬ ser n l[i] = ser n l'[i]) : sdR N n l l' i d s := by
  have hne : ¬ (l.drop i).map (ser n) = (l'.drop i).map (ser n) := fun q => by
    rw [List.drop_eq_getElem_cons hi, List.drop_eq_getElem_cons hi'] at q
    exact hn (List.cons.inj q).1
  refine ⟨k1 + 1, s1, ?_, hf, fun q => absurd q hne, fun _ f => ?_⟩
  · rw [List.drop_eq_getElem_cons hi, List.map_cons, List.sum_cons]
    omega
  · rw [show f + (k1 + 1) = (f + 1) + k1 by omega, hst, sm_0]
theorem sd_tail {n i d k1 : Nat} {l l' : List (Th n)} {s s1 : mS} (hi : i < l.length) (hi' : i < l'.length) (hst : ∀ f, mf_346_L1 N (f + k1) 0 1 s = mf_346_L1 N f 0 1 s1) (hk1 : k1 ≤ 2 * bulk n l[i]) (hn : ser n l[i] = ser n l'[i]) (hj : ∀ j, j < d → s1.2.2.1 52 j = s.2.2.1 52 j ∧ s1.2.2.1 53 j = s.2.2.1 53 j ∧ s1.2.2.1 54 j = s.2.2.1 54 j) (hf : fD s s1) (q : sdR N n l l' (i + 1) d s1) : sdR N n l l' i d s := by
  obtain ⟨k, s', q1, q2, q3, q4⟩ := q
  have ed := List.drop_eq_getElem_cons hi
  have ed' := List.drop_eq_getElem_cons hi'
  refine ⟨k + k1, s', ?_, hf.tr q2, fun e => ?_, fun e f => ?_⟩
  · rw [ed, List.map_cons, List.sum_cons]
    omega
  · rw [ed, ed'] at e
    obtain ⟨r0, r1, r2, r3⟩ := q3 (List.cons.inj e).2
    exact ⟨by rw [ed, List.map_cons, List.sum_cons]; omega, fun f => by rw [← Nat.add_assoc, hst, r1], r2, fun j h => ⟨(r3 j h).1.trans (hj j h).1, (r3 j h).2.1.trans (hj j h).2.1, (r3 j h).2.2.trans (hj j h).2.2⟩⟩
  · rw [← Nat.add_assoc, hst]
    exact q4 (fun q => e (by rw [ed, ed', List.map_cons, List.map_cons, hn, q])) f
theorem sm_end {d a i n : Nat} {s : mS} {l : List (Th n)} {P : Nat → Nod → Prop} (hd : d < 8) (h55 : s.1 55 = Int32.ofNat (d + 1)) (h52 : s.2.2.1 52 d = Int32.ofNat a) (h54 : s.2.2.1 54 d = Int32.ofNat i) (H : Wy (s.2.2.1 47) a P (vP n l)) (ha : a + wV wn (vP n l) ≤ 166300) (hi : i = l.length) : ∀ f, mf_346_L1 N (f + 1) 0 1 s = mf_346_L1 N f 0 1 (mI s 55 (Int32.ofNat d)) := by
  intro f
  have hwa : a + (2 + 2 * l.length) ≤ 166300 := ha
  have hz := r_size (N := N) H ha
  show mf_346_64 N (mf_346_L1 N f) 1 s = _
  repeat ((first | unfold mf_346 | unfold mf_346_0 | unfold mf_346_15 | unfold mf_346_17 | unfold mf_346_27 | unfold mf_346_33 | unfold mf_346_34 | unfold mf_346_39 | unfold mf_346_44 | unfold mf_346_47 | unfold mf_346_51 | unfold mf_346_52 | unfold mf_346_64 | unfold mf_346_68 | unfold mf_346_75 | unfold mf_346_122 | unfold mf_346_125 | unfold mf_346_138 | unfold mf_346_161 | unfold mf_346_164 | unfold mf_346_172 | unfold mf_346_175 | unfold mf_346_183 | unfold mf_346_186 | unfold mf_346_194 | unfold mf_346_197 | unfold mf_346_228 | unfold mf_346_232 | unfold mf_346_233 | unfold mf_346_237 | unfold mf_346_245 | unfold mf_346_255 | unfold mf_346_274 | unfold mf_346_285 | unfold mf_346_291 | unfold mf_346_297 | unfold mf_346_300 | unfold mf_346_303 | unfold mf_346_311 | unfold mf_346_314 | unfold mf_346_318 | unfold mf_346_319 | unfold mf_346_331 | unfold mf_346_339 | unfold mf_346_342); try simp (disch := omega) only [ev_S, ev_P, ↓reduceIte, Nat.reduceEqDiff, Nat.reduceLeDiff, Nat.reduceAdd, Nat.reduceMul, Nat.reduceSub, reduceCtorEq, l32_0, l32_1, l32_2, l32_3, l32_4, l32_8, l32_47, l32_52, l32_53, l32_54, l32_55, l32_166300, h55, h52, h54, hz, szV, hi])
theorem sd_all (hN : 170000 ≤ N) (hR : ∀ y, R y → y < 166300) (hR' : ∀ y, R' y → y < 166300) : ∀ (n e i d a b : Nat) (l l' : List (Th n)) (s : mS), i + e = l.length → d + n < 7 → s.1 55 = Int32.ofNat (d + 1) → s.2.2.1 52 d = Int32.ofNat a → s.2.2.1 53 d = Int32.ofNat b → s.2.2.1 54 d = Int32.ofNat i → Wy (s.2.2.1 47) a (LayN (s.2.2.1 47) R) (vP n l) → a + wV wn (vP n l) ≤ 166300 → Wy (s.2.2.1 47) b (LayN (s.2.2.1 47) R') (vP n l') → b + wV wn (vP n l') ≤ 166300 → l.length = l'.length → (∀ y ∈ l, wfT n y) → (∀ y ∈ l', wfT n y) → sdR N n l l' i d s := by
  intro n
  induction n with
  | zero =>
    intro e
    induction e with
    | zero =>
      intro i d a b l l' s hi hd h55 h52 h53 h54 H ha H' hb hl hw hw'
      refine ⟨1, mI s 55 (Int32.ofNat d), by omega, ⟨fun q r => if_neg r, fun _ _ => rfl, fun _ _ => rfl, fun _ _ => rfl⟩, fun _ => ⟨by omega, sm_end (by omega) h55 h52 h54 H ha hi, rfl, fun _ _ => ⟨rfl, rfl, rfl⟩⟩, fun q => absurd ?_ q⟩
      rw [show i = l.length from hi, List.drop_length, hl, List.drop_length]
    | succ e ih =>
      intro i d a b l l' s hi hd h55 h52 h53 h54 H ha H' hb hl hw hw'
      have hi1 : i < l.length := by omega
      have hi1' : i < l'.length := by omega
      have hbp := bulk_pos 0 l[i]
      obtain q | ⟨c, c', q1, q2⟩ | ⟨c, c', m, w, w', q1, q2, -⟩ := sm_part (N := N) hN hR hR' (by omega) h55 h52 h53 h54 H ha H' hb hl hi1 hw hw'
      · by_cases k : ser 0 l[i] = ser 0 l'[i]
        · rw [if_pos k] at q
          exact sd_tail hi1 hi1' q (by omega) k (fun j hj => ⟨rfl, rfl, if_neg (by omega)⟩) fD_nxt (ih (i + 1) d a b l l' (nxt s d i) (by omega) hd h55 h52 h53 (if_pos rfl) H ha H' hb hl hw hw')
        · rw [if_neg k] at q
          exact sd_no hi1 hi1' q (by omega) fD_nxt k
      · exact sd_no hi1 hi1' q2 (by omega) (mfr.tr (s1 := nxt s d i) fD_nxt fD_gin) q1
      · exact absurd q1 (fun q => by
          generalize l[i] = x at q
          obtain z | r | q' := x <;> cases q)
  | succ n ihn =>
    intro e
    induction e with
    | zero =>
      intro i d a b l l' s hi hd h55 h52 h53 h54 H ha H' hb hl hw hw'
      refine ⟨1, mI s 55 (Int32.ofNat d), by omega, ⟨fun q r => if_neg r, fun _ _ => rfl, fun _ _ => rfl, fun _ _ => rfl⟩, fun _ => ⟨by omega, sm_end (by omega) h55 h52 h54 H ha hi, rfl, fun _ _ => ⟨rfl, rfl, rfl⟩⟩, fun q => absurd ?_ q⟩
      rw [show i = l.length from hi, List.drop_length, hl, List.drop_length]
    | succ e ih =>
      intro i d a b l l' s hi hd h55 h52 h53 h54 H ha H' hb hl hw hw'
      have hi1 : i < l.length := by omega
      have hi1' : i < l'.length := by omega
      have hbp := bulk_pos (n + 1) l[i]
      obtain q | ⟨c, c', q1, q2⟩ | ⟨c, c', m, w, w', q1, q2, q3, q4, q5, q6, q7⟩ := sm_part (N := N) hN hR hR' (by omega) h55 h52 h53 h54 H ha H' hb hl hi1 hw hw'
      · by_cases k : ser (n + 1) l[i] = ser (n + 1) l'[i]
        · rw [if_pos k] at q
          exact sd_tail hi1 hi1' q (by omega) k (fun j hj => ⟨rfl, rfl, if_neg (by omega)⟩) fD_nxt (ih (i + 1) d a b l l' (nxt s d i) (by omega) hd h55 h52 h53 (if_pos rfl) H ha H' hb hl hw hw')
        · rw [if_neg k] at q
          exact sd_no hi1 hi1' q (by omega) fD_nxt k
      · exact sd_no hi1 hi1' q2 (by omega) (mfr.tr (s1 := nxt s d i) fD_nxt fD_gin) q1
      · have em : n = m := by
          have key : ∀ (x : Th (n + 1)), vw ⟨n + 1, x⟩ = vP m w → n = m := fun x h => by
            obtain p | l := x
            · obtain z | r | q := p <;> cases h
            · cases h
              rfl
          exact key _ q1
        subst em
        have s1 : ser (n + 1) l[i] = _ := vw_ser ⟨n + 1, l[i]⟩
        have s2 : ser (n + 1) l'[i] = _ := vw_ser ⟨n + 1, l'[i]⟩
        have b1 : bulk (n + 1) l[i] = _ := vw_bulk ⟨n + 1, l[i]⟩
        have w1 := vw_wf ⟨n + 1, l[i]⟩ (hw _ (List.getElem_mem _))
        have w2 := vw_wf ⟨n + 1, l'[i]⟩ (hw' _ (List.getElem_mem _))
        rw [q1] at s1 b1 w1
        rw [q2] at s2 w2
        have s1 : ser (n + 1) l[i] = 3 :: Int32.ofNat w.length :: w.flatMap (ser n) := s1
        have s2 : ser (n + 1) l'[i] = 3 :: Int32.ofNat w'.length :: w'.flatMap (ser n) := s2
        have b1 : bulk (n + 1) l[i] = 1 + (w.map (bulk n)).sum := b1
        have hfr : fD s (gin (nxt s d i) (d + 1) c c') := mfr.tr (s1 := nxt s d i) fD_nxt fD_gin
        by_cases k : w.length = w'.length
        · rw [if_pos k] at q3
          obtain ⟨k2, s', r1, r2, r3, r4⟩ := ihn w.length 0 (d + 1) c c' w w' (gin (nxt s d i) (d + 1) c c') (Nat.zero_add _) (by omega) rfl (if_pos rfl) (if_pos rfl) (if_pos rfl) q4 q5 q6 q7 k w1.2.2 w2.2.2
          rw [List.drop_zero, List.drop_zero] at r3 r4
          rw [List.drop_zero] at r1
          by_cases k3 : w.map (ser n) = w'.map (ser n)
          · obtain ⟨u0, u1, u2, u3⟩ := r3 k3
            have e47 : s'.2.2.1 47 = s.2.2.1 47 := (r2.2.2.1 47 (by omega)).trans (hfr.2.2.1 47 (by omega))
            have u := u3 d (by omega)
            refine sd_tail (k1 := k2 + 1) (s1 := s') hi1 hi1' (fun f => by rw [← Nat.add_assoc, q3, u1]) (by omega) ?_ (fun j hj => ?_) (mfr.tr (s1 := gin (nxt s d i) (d + 1) c c') hfr r2) (ih (i + 1) d a b l l' s' (by omega) hd u2 ?_ ?_ ?_ (by rw [e47]; exact H) ha (by rw [e47]; exact H') hb hl hw hw')
            · rw [s1, s2, k, List.flatMap_def, List.flatMap_def, k3]
            · obtain ⟨v1, v2, v3⟩ := u3 j (by omega)
              refine ⟨v1.trans (if_neg (by omega)), v2.trans (if_neg (by omega)), v3.trans ?_⟩
              show upd (upd (s.2.2.1 54) d _) (d + 1) _ j = _
              rw [upd_n (by omega), upd_n (by omega)]
            · exact u.1.trans ((if_neg (by omega)).trans h52)
            · exact u.2.1.trans ((if_neg (by omega)).trans h53)
            · refine u.2.2.trans ?_
              show upd (upd (s.2.2.1 54) d _) (d + 1) _ d = _
              rw [upd_n (by omega), upd_s]
          · have u := r4 k3
            have hn : ¬ ser (n + 1) l[i] = ser (n + 1) l'[i] := fun q => by
              rw [s1, s2] at q
              have q := (List.cons.inj (List.cons.inj q).2).2
              exact k3 (flat_pre (g := ser n) (p := wfT n) (fun x y l l' => ser_pre n x y l l') w w' [] [] k w1.2.2 w2.2.2 (by rw [List.append_nil, List.append_nil]; exact q)).1
            have hne : ¬ (l.drop i).map (ser (n + 1)) = (l'.drop i).map (ser (n + 1)) := fun q => by
              rw [List.drop_eq_getElem_cons hi1, List.drop_eq_getElem_cons hi1'] at q
              exact hn (List.cons.inj q).1
            refine ⟨k2 + 1, s', ?_, mfr.tr (s1 := gin (nxt s d i) (d + 1) c c') hfr r2, fun q => absurd q hne, fun _ f => ?_⟩
            · rw [List.drop_eq_getElem_cons hi1, List.map_cons, List.sum_cons]
              omega
            · rw [← Nat.add_assoc, q3, u]
        · rw [if_neg k] at q3
          refine sd_no hi1 hi1' q3 (by omega) hfr (fun q => ?_)
          rw [s1, s2] at q
          have := ofNat_inj (by have : w.length ≤ 20 := w1.1; omega) (by have : w'.length ≤ 20 := w2.1; omega) (List.cons.inj (List.cons.inj q).2).1
          omega
/-- two THINGS that are no INTS -/
theorem r_areSame {a b : Nat} {s : mS} {x y : Th 4} (hN : 170000 ≤ N) (hR : ∀ y, R y → y < 166300) (hR' : ∀ y, R' y → y < 166300) (H : LayN (s.2.2.1 47) R a ⟨4, x⟩) (H' : LayN (s.2.2.1 47) R' b ⟨4, y⟩) (hw : wfT 4 x) (hw' : wfT 4 y) : ∃ s', mf_346 N (Int32.ofNat a) (Int32.ofNat b) s = some (s', some (.int (if ser 4 x = ser 4 y then 1 else 0))) ∧ fD s s' := by
  obtain ⟨L1, L2⟩ := LayN_iff.mp H
  obtain ⟨L1', L2'⟩ := LayN_iff.mp H'
  have k1 := L2.kd
  have k2 := L2'.kd
  have hc : a + wV wn (vw ⟨4, x⟩) ≤ 166300 := by
    have := hR _ (L1 (a + wV wn (vw ⟨4, x⟩) - 1) (by omega) (by omega))
    omega
  have hc' : b + wV wn (vw ⟨4, y⟩) ≤ 166300 := by
    have := hR' _ (L1' (b + wV wn (vw ⟨4, y⟩) - 1) (by omega) (by omega))
    omega
  have w1 := vw_wf ⟨4, x⟩ hw
  have w2 := vw_wf ⟨4, y⟩ hw'
  have s1 : ser 4 x = _ := vw_ser ⟨4, x⟩
  have s2 : ser 4 y = _ := vw_ser ⟨4, y⟩
  have hd := @vw_dep 4
  have b1 : bulk 4 x = _ := vw_bulk ⟨4, x⟩
  have hbw := bulk_wf 4 x hw
  have v4 : ∀ m w, vw ⟨4, x⟩ = vP m w → m = 3 := fun m w h => by
    revert h
    generalize x = x
    intro h
    obtain p | l := x
    · obtain z | r | q := p <;> cases h
    · cases h
      rfl
  have v4' : ∀ m w, vw ⟨4, y⟩ = vP m w → m = 3 := fun m w h => by
    revert h
    generalize y = x
    intro h
    obtain p | l := x
    · obtain z | r | q := p <;> cases h
    · cases h
      rfl
  rw [s1, s2]
  generalize vw ⟨4, x⟩ = V at *
  generalize vw ⟨4, y⟩ = V' at *
  have k1a : s.2.2.1 47 a = kdV V := k1.1
  have k2a : s.2.2.1 47 b = kdV V' := k2.1
  have k1b := k1.2.2
  have k2b := k2.2.2
  have c1 : a < 166300 := by omega
  have c2 : b < 166300 := by omega
  by_cases hk : kdV V = kdV V'
  · by_cases h3 : kdV V = 3
    · obtain ⟨m, w, rfl⟩ := kdV_3 h3
      obtain ⟨m', w', rfl⟩ := kdV_3 (hk.symm.trans h3)
      cases v4 _ _ rfl
      cases v4' _ _ rfl
      have z1 := r_size (N := N) L2 hc
      have z2 := r_size (N := N) L2' hc'
      have k1a : s.2.2.1 47 a = 3 := k1a
      have k2a : s.2.2.1 47 b = 3 := k2a
      have wl : w.length ≤ 20 := w1.1
      have wl' : w'.length ≤ 20 := w2.1
      have b1 : bulk 4 x = 1 + (w.map (bulk 3)).sum := b1
      have gg := r_goesIn (N := N) (s := mI s 55 (Int32.ofNat 0)) (d := 0) (a := a) (b := b) (by omega) rfl
      have hf0 : fD s (gin (mI s 55 (Int32.ofNat 0)) 0 a b) := mfr.tr (s1 := mI s 55 (Int32.ofNat 0)) ⟨fun q r => if_neg r, fun _ _ => rfl, fun _ _ => rfl, fun _ _ => rfl⟩ fD_gin
      by_cases e : w.length = w'.length
      · obtain ⟨k2, s', r1, r2, r3, r4⟩ := sd_all (N := N) hN hR hR' 3 w.length 0 0 a b w w' (gin (mI s 55 (Int32.ofNat 0)) 0 a b) (Nat.zero_add _) (by omega) rfl rfl rfl rfl L2 hc L2' hc' e w1.2.2 w2.2.2
        rw [List.drop_zero, List.drop_zero] at r3 r4
        rw [List.drop_zero] at r1
        refine ⟨s', ?_, mfr.tr (s1 := gin (mI s 55 (Int32.ofNat 0)) 0 a b) hf0 r2⟩
        have hst : mf_346 N (Int32.ofNat a) (Int32.ofNat b) s = mf_346_L1 N N 0 1 (gin (mI s 55 (Int32.ofNat 0)) 0 a b) := by
          repeat ((first | unfold mf_346 | unfold mf_346_0 | unfold mf_346_15 | unfold mf_346_17 | unfold mf_346_27 | unfold mf_346_33 | unfold mf_346_34 | unfold mf_346_39 | unfold mf_346_44 | unfold mf_346_47 | unfold mf_346_51 | unfold mf_346_52 | unfold mf_346_64 | unfold mf_346_68 | unfold mf_346_75 | unfold mf_346_122 | unfold mf_346_125 | unfold mf_346_138 | unfold mf_346_161 | unfold mf_346_164 | unfold mf_346_172 | unfold mf_346_175 | unfold mf_346_183 | unfold mf_346_186 | unfold mf_346_194 | unfold mf_346_197 | unfold mf_346_228 | unfold mf_346_232 | unfold mf_346_233 | unfold mf_346_237 | unfold mf_346_245 | unfold mf_346_255 | unfold mf_346_274 | unfold mf_346_285 | unfold mf_346_291 | unfold mf_346_297 | unfold mf_346_300 | unfold mf_346_303 | unfold mf_346_311 | unfold mf_346_314 | unfold mf_346_318 | unfold mf_346_319 | unfold mf_346_331 | unfold mf_346_339 | unfold mf_346_342); try simp (disch := omega) only [ev_S, ev_P, ↓reduceIte, Nat.reduceEqDiff, Nat.reduceLeDiff, Nat.reduceAdd, Nat.reduceMul, Nat.reduceSub, reduceCtorEq, l32_0, l32_1, l32_2, l32_3, l32_4, l32_8, l32_47, l32_52, l32_53, l32_54, l32_55, l32_166300, k1a, k2a, z1, z2, szV, e, gg])
        rw [hst]
        by_cases k3 : w.map (ser 3) = w'.map (ser 3)
        · obtain ⟨-, u1, u2, -⟩ := r3 k3
          have u1 := u1 (N - k2)
          rw [show N - k2 + k2 = N by omega] at u1
          rw [u1, if_pos (show serV (vP 3 w) = serV (vP 3 w') by
            show (3 : Int32) :: Int32.ofNat w.length :: w.flatMap (ser 3) = 3 :: Int32.ofNat w'.length :: w'.flatMap (ser 3)
            rw [e, List.flatMap_def, List.flatMap_def, k3])]
          have e2 : N - k2 = (N - k2 - 1) + 1 := by omega
          rw [e2]
          show mf_346_64 N (mf_346_L1 N (N - k2 - 1)) 1 s' = _
          repeat ((first | unfold mf_346 | unfold mf_346_0 | unfold mf_346_15 | unfold mf_346_17 | unfold mf_346_27 | unfold mf_346_33 | unfold mf_346_34 | unfold mf_346_39 | unfold mf_346_44 | unfold mf_346_47 | unfold mf_346_51 | unfold mf_346_52 | unfold mf_346_64 | unfold mf_346_68 | unfold mf_346_75 | unfold mf_346_122 | unfold mf_346_125 | unfold mf_346_138 | unfold mf_346_161 | unfold mf_346_164 | unfold mf_346_172 | unfold mf_346_175 | unfold mf_346_183 | unfold mf_346_186 | unfold mf_346_194 | unfold mf_346_197 | unfold mf_346_228 | unfold mf_346_232 | unfold mf_346_233 | unfold mf_346_237 | unfold mf_346_245 | unfold mf_346_255 | unfold mf_346_274 | unfold mf_346_285 | unfold mf_346_291 | unfold mf_346_297 | unfold mf_346_300 | unfold mf_346_303 | unfold mf_346_311 | unfold mf_346_314 | unfold mf_346_318 | unfold mf_346_319 | unfold mf_346_331 | unfold mf_346_339 | unfold mf_346_342); try simp (disch := omega) only [ev_S, ev_P, ↓reduceIte, Nat.reduceEqDiff, Nat.reduceLeDiff, Nat.reduceAdd, Nat.reduceMul, Nat.reduceSub, reduceCtorEq, l32_0, l32_1, l32_2, l32_3, l32_4, l32_8, l32_47, l32_52, l32_53, l32_54, l32_55, l32_166300, u2])
        · have u1 := r4 k3 (N - k2)
          rw [show N - k2 + k2 = N by omega] at u1
          rw [u1, if_neg (fun q => k3 ?_)]
          have q := (List.cons.inj (List.cons.inj q).2).2
          exact (flat_pre (g := ser 3) (p := wfT 3) (fun x y l l' => ser_pre 3 x y l l') w w' [] [] e w1.2.2 w2.2.2 (by rw [List.append_nil, List.append_nil]; exact q)).1
      · refine ⟨gin (mI s 55 (Int32.ofNat 0)) 0 a b, ?_, hf0⟩
        have hst : mf_346 N (Int32.ofNat a) (Int32.ofNat b) s = mf_346_L1 N N 0 0 (gin (mI s 55 (Int32.ofNat 0)) 0 a b) := by
          repeat ((first | unfold mf_346 | unfold mf_346_0 | unfold mf_346_15 | unfold mf_346_17 | unfold mf_346_27 | unfold mf_346_33 | unfold mf_346_34 | unfold mf_346_39 | unfold mf_346_44 | unfold mf_346_47 | unfold mf_346_51 | unfold mf_346_52 | unfold mf_346_64 | unfold mf_346_68 | unfold mf_346_75 | unfold mf_346_122 | unfold mf_346_125 | unfold mf_346_138 | unfold mf_346_161 | unfold mf_346_164 | unfold mf_346_172 | unfold mf_346_175 | unfold mf_346_183 | unfold mf_346_186 | unfold mf_346_194 | unfold mf_346_197 | unfold mf_346_228 | unfold mf_346_232 | unfold mf_346_233 | unfold mf_346_237 | unfold mf_346_245 | unfold mf_346_255 | unfold mf_346_274 | unfold mf_346_285 | unfold mf_346_291 | unfold mf_346_297 | unfold mf_346_300 | unfold mf_346_303 | unfold mf_346_311 | unfold mf_346_314 | unfold mf_346_318 | unfold mf_346_319 | unfold mf_346_331 | unfold mf_346_339 | unfold mf_346_342); try simp (disch := omega) only [ev_S, ev_P, ↓reduceIte, Nat.reduceEqDiff, Nat.reduceLeDiff, Nat.reduceAdd, Nat.reduceMul, Nat.reduceSub, reduceCtorEq, l32_0, l32_1, l32_2, l32_3, l32_4, l32_8, l32_47, l32_52, l32_53, l32_54, l32_55, l32_166300, k1a, k2a, z1, z2, szV, e, gg])
        rw [hst, if_neg (show ¬ serV (vP 3 w) = serV (vP 3 w') from fun q => e (ofNat_inj (by omega) (by omega) (List.cons.inj (List.cons.inj q).2).1))]
        have e2 : N = (N - 1) + 1 := by omega
        generalize N - 1 = f at e2
        rw [show mf_346_L1 N N = mf_346_L1 N (f + 1) from congrArg _ e2]
        exact sm_0
    · have es := r_plainSame hN hR hR' L2 hc L2' hc' hk h3 w1 w2
      refine ⟨s, ?_, mfr.rf⟩
      have h3' : ¬ kdV V' = Int32.ofNat 3 := hk ▸ h3
      by_cases e : serV V = serV V'
      · rw [if_pos e] at es ⊢
        repeat ((first | unfold mf_346 | unfold mf_346_0 | unfold mf_346_15 | unfold mf_346_17 | unfold mf_346_27 | unfold mf_346_33 | unfold mf_346_34 | unfold mf_346_39 | unfold mf_346_44 | unfold mf_346_47 | unfold mf_346_51 | unfold mf_346_52 | unfold mf_346_64 | unfold mf_346_68 | unfold mf_346_75 | unfold mf_346_122 | unfold mf_346_125 | unfold mf_346_138 | unfold mf_346_161 | unfold mf_346_164 | unfold mf_346_172 | unfold mf_346_175 | unfold mf_346_183 | unfold mf_346_186 | unfold mf_346_194 | unfold mf_346_197 | unfold mf_346_228 | unfold mf_346_232 | unfold mf_346_233 | unfold mf_346_237 | unfold mf_346_245 | unfold mf_346_255 | unfold mf_346_274 | unfold mf_346_285 | unfold mf_346_291 | unfold mf_346_297 | unfold mf_346_300 | unfold mf_346_303 | unfold mf_346_311 | unfold mf_346_314 | unfold mf_346_318 | unfold mf_346_319 | unfold mf_346_331 | unfold mf_346_339 | unfold mf_346_342); try simp (disch := omega) only [ev_S, ev_P, ↓reduceIte, Nat.reduceEqDiff, Nat.reduceLeDiff, Nat.reduceAdd, Nat.reduceMul, Nat.reduceSub, reduceCtorEq, l32_0, l32_1, l32_2, l32_3, l32_4, l32_8, l32_47, l32_52, l32_53, l32_54, l32_55, l32_166300, k1a, k2a, hk, h3', es])
      · rw [if_neg e] at es ⊢
        repeat ((first | unfold mf_346 | unfold mf_346_0 | unfold mf_346_15 | unfold mf_346_17 | unfold mf_346_27 | unfold mf_346_33 | unfold mf_346_34 | unfold mf_346_39 | unfold mf_346_44 | unfold mf_346_47 | unfold mf_346_51 | unfold mf_346_52 | unfold mf_346_64 | unfold mf_346_68 | unfold mf_346_75 | unfold mf_346_122 | unfold mf_346_125 | unfold mf_346_138 | unfold mf_346_161 | unfold mf_346_164 | unfold mf_346_172 | unfold mf_346_175 | unfold mf_346_183 | unfold mf_346_186 | unfold mf_346_194 | unfold mf_346_197 | unfold mf_346_228 | unfold mf_346_232 | unfold mf_346_233 | unfold mf_346_237 | unfold mf_346_245 | unfold mf_346_255 | unfold mf_346_274 | unfold mf_346_285 | unfold mf_346_291 | unfold mf_346_297 | unfold mf_346_300 | unfold mf_346_303 | unfold mf_346_311 | unfold mf_346_314 | unfold mf_346_318 | unfold mf_346_319 | unfold mf_346_331 | unfold mf_346_339 | unfold mf_346_342); try simp (disch := omega) only [ev_S, ev_P, ↓reduceIte, Nat.reduceEqDiff, Nat.reduceLeDiff, Nat.reduceAdd, Nat.reduceMul, Nat.reduceSub, reduceCtorEq, l32_0, l32_1, l32_2, l32_3, l32_4, l32_8, l32_47, l32_52, l32_53, l32_54, l32_55, l32_166300, k1a, k2a, hk, h3', es])
  · refine ⟨s, ?_, mfr.rf⟩
    rw [if_neg (serV_kd hk)]
    repeat ((first | unfold mf_346 | unfold mf_346_0 | unfold mf_346_15 | unfold mf_346_17 | unfold mf_346_27 | unfold mf_346_33 | unfold mf_346_34 | unfold mf_346_39 | unfold mf_346_44 | unfold mf_346_47 | unfold mf_346_51 | unfold mf_346_52 | unfold mf_346_64 | unfold mf_346_68 | unfold mf_346_75 | unfold mf_346_122 | unfold mf_346_125 | unfold mf_346_138 | unfold mf_346_161 | unfold mf_346_164 | unfold mf_346_172 | unfold mf_346_175 | unfold mf_346_183 | unfold mf_346_186 | unfold mf_346_194 | unfold mf_346_197 | unfold mf_346_228 | unfold mf_346_232 | unfold mf_346_233 | unfold mf_346_237 | unfold mf_346_245 | unfold mf_346_255 | unfold mf_346_274 | unfold mf_346_285 | unfold mf_346_291 | unfold mf_346_297 | unfold mf_346_300 | unfold mf_346_303 | unfold mf_346_311 | unfold mf_346_314 | unfold mf_346_318 | unfold mf_346_319 | unfold mf_346_331 | unfold mf_346_339 | unfold mf_346_342); try simp (disch := omega) only [ev_S, ev_P, ↓reduceIte, Nat.reduceEqDiff, Nat.reduceLeDiff, Nat.reduceAdd, Nat.reduceMul, Nat.reduceSub, reduceCtorEq, l32_0, l32_1, l32_2, l32_3, l32_4, l32_8, l32_47, l32_52, l32_53, l32_54, l32_55, l32_166300, k1a, k2a, hk])
end SAB
