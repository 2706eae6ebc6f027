/-! ===== PURE: statements (8): targets are told ===== -/
/-- a statement with blocks: the class's answer R, the reference's M, and the rounds behind it -/
def SQ (N : Nat) (b : Nat → Nat) (n p e i op D : Nat) (code : List Ins) (cu : List Nat) (fs : Nat × Nat × Nat) (Bs : List (Int32 × Int32 × Int32)) (t : cS) (s : mS) (R : kO) (M : mO) : Prop := (∃ t' s0 s' k i' seg vs' cl' W', R = some (t', .inl none) ∧ M = some (s0, none) ∧ i < i' ∧ k + 1 + i ≤ i' ∧ (∀ f, TW N (f + k) s0 = TW N f s') ∧ PE b n p e i' op D (code ++ seg) (code ++ seg) vs' cl' W' cu (fs.1, (code ++ seg).length, fs.2.2) t' s' ∧ rB s' Bs ∧ JP (code ++ seg) code.length (code ++ seg).length ∧ FRs p e t t' s s') ∨ (∃ t' s0 s' k, R = some (t', .inr ()) ∧ M = some (s0, none) ∧ k + 1 + i ≤ (TL b n).length + 1 ∧ (∀ f, TW N (f + k) s0 = some (s', none)) ∧ pF t' s' ∧ FXs p e t t' s s')
/-- what the class may change between -/
abbrev eM (p : Nat) : Nat → Nat → Prop := fun k f => (k = 3 ∧ (f = 4 ∨ f = 5 ∨ f = 6)) ∨ (k = 2 ∧ (f = 2 ∨ f = 4 ∨ f = 10 ∨ f = 11)) ∨ (k = p ∧ f = 3)
abbrev aM (p : Nat) : Nat → Prop := fun k => k = 7 ∨ k = p + 1 ∨ k = p + 2 ∨ k = p + 3
section TGT
variable {N : Nat} {X : Nat → Option zz_C} {t t' t1 t2 : cS} {s s' s1 s2 : mS} {b : Nat → Nat} {n p e i i' op op' D D' : Nat} {code code1 code2 l : List Ins} {vs vs' : List (List Nat)} {cl : List Cn} {W : List Wt} {cu cu' : List Nat} {fs fs' : Nat × Nat × Nat} {Bs : List (Int32 × Int32 × Int32)} {a m : Nat} {c c' : Ins}
theorem pop0_F : ∀ (k : Nat) (L M : List Nat), pop0 k L = some M → nF L = nF M
  | 0, L, M, h => by
    rw [show L = M from Option.some.inj h]
  | k + 1, [], M, h => by
    simp [pop0] at h
  | k + 1, 0 :: L, M, h => pop0_F k L M h
  | k + 1, (x + 1) :: L, M, h => by
    simp [pop0] at h
theorem pay_eq {L L' : List Nat} (h : pay L = some L') : L = 0 :: 5 :: L' := by
  unfold pay at h
  split at h
  · rw [Option.some.inj h]
  · cases h
theorem pay2_F {k : Nat} {L L' : List Nat} (h : (pop0 k L).bind pay = some L') : nF L = nF L' := by
  cases hM : pop0 k L with
  | none =>
    rw [hM] at h
    cases h
  | some M =>
    rw [hM] at h
    have e : M = 0 :: 5 :: L' := pay_eq h
    rw [pop0_F k L M hM, e]
    rfl
/-- what an instruction does to the nest -/
theorem eff_F {c : Ins} {L L' : List Nat} (h : eff c L = some L') : 1 + nF L' ≤ 2 * clen c + nF L := by
  obtain ⟨o, j, r, a, q, x, y⟩ := c
  have pm : ∀ k, (pop0 k L).map (0 :: ·) = some L' → nF L' = nF L := fun k hk => by
    cases hM : pop0 k L with
    | none =>
      rw [hM] at hk
      cases hk
    | some M =>
      rw [hM] at hk
      have := pop0_F k L M hM
      rw [← show 0 :: M = L' from Option.some.inj hk, this]
      rfl
  have one : ∀ n, n ≤ 24 → 1 ≤ clen (n, j, r, a, q, x, y) := fun n hn => by
    unfold clen
    dsimp only
    repeat' split
    all_goals omega
  by_cases h26 : o = 26
  · subst h26
    have h : (match (generalizing := false) L with | 4 :: M => some M | _ => none) = some L' := h
    split at h
    · rename_i M h0
      have h : M = L' := Option.some.inj h
      subst h
      show 1 + nF M ≤ 2 * 0 + (nF M + 1)
      omega
    · cases h
  · by_cases h25 : o ≤ 25
    · have key : nF L' ≤ nF L + 1 := by
        have hv : o = 0 ∨ o = 1 ∨ o = 2 ∨ o = 3 ∨ o = 4 ∨ o = 5 ∨ o = 6 ∨ o = 7 ∨ o = 8 ∨ o = 9 ∨ o = 10 ∨ o = 11 ∨ o = 12 ∨ o = 13 ∨ o = 14 ∨ o = 15 ∨ o = 16 ∨ o = 17 ∨ o = 18 ∨ o = 19 ∨ o = 20 ∨ o = 21 ∨ o = 22 ∨ o = 23 ∨ o = 24 ∨ o = 25 := by omega
        rcases hv with rfl | rfl | rfl | rfl | rfl | rfl | rfl | rfl | rfl | rfl | rfl | rfl | rfl | rfl | rfl | rfl | rfl | rfl | rfl | rfl | rfl | rfl | rfl | rfl | rfl | rfl
        · rw [← show 0 :: L = L' from Option.some.inj h]
          exact Nat.le_succ _
        · rw [← show 0 :: L = L' from Option.some.inj h]
          exact Nat.le_succ _
        · rw [← show 1 :: L = L' from Option.some.inj h]
          exact Nat.le_succ _
        · have h : (match (generalizing := false) L with | 0 :: 1 :: M => some (0 :: M) | _ => none) = some L' := h
          split at h
          · rw [← Option.some.inj h]
            exact Nat.le_succ _
          · cases h
        · rw [pm 1 h]; exact Nat.le_succ _
        · rw [pm 2 h]; exact Nat.le_succ _
        · rw [pm j h]; exact Nat.le_succ _
        · rw [pm 2 h]; exact Nat.le_succ _
        · rw [pm j h]; exact Nat.le_succ _
        · rw [pm r h]; exact Nat.le_succ _
        · have h : (if r ≤ 2 then (pop0 r L).map (0 :: ·) else none) = some L' := h
          by_cases z : r ≤ 2
          · rw [if_pos z] at h
            rw [pm r h]; exact Nat.le_succ _
          · rw [if_neg z] at h
            cases h
        · rw [pay_eq h]; exact Nat.le_succ _
        · rw [pay2_F h]; exact Nat.le_succ _
        · have h : (match (generalizing := false) L with | 0 :: 5 :: M => if nF M < 10 then some (4 :: M) else none | _ => none) = some L' := h
          split at h
          · split at h
            · rw [← Option.some.inj h]
              exact Nat.le_refl _
            · cases h
          · cases h
        · have h : (if r = 1 then (match (generalizing := false) L with | 5 :: 2 :: M => some M | _ => none) else if r = 2 then (match (generalizing := false) L with | 4 :: 5 :: M => some M | _ => none) else (match (generalizing := false) L with | 4 :: M => some M | _ => none)) = some L' := h
          split at h
          · split at h
            · rw [← Option.some.inj h]
              exact Nat.le_succ_of_le (Nat.le_succ _)
            · cases h
          · split at h
            · split at h
              · rw [← Option.some.inj h]
                exact Nat.le_succ_of_le (Nat.le_succ _)
              · cases h
            · split at h
              · rw [← Option.some.inj h]
                exact Nat.le_succ_of_le (Nat.le_succ _)
              · cases h
        · have h : (match (generalizing := false) L with | 5 :: M => some (5 :: 5 :: M) | _ => none) = some L' := h
          split at h
          · rw [← Option.some.inj h]
            exact Nat.le_succ _
          · cases h
        · have h : (match (generalizing := false) L with | 0 :: _ => none | 1 :: _ => none | _ => some (5 :: L)) = some L' := h
          split at h
          · cases h
          · cases h
          · rw [← Option.some.inj h]
            exact Nat.le_succ _
        · have h : (match (generalizing := false) L with | 0 :: 5 :: M => if nF M < 10 then some (2 :: M) else none | _ => none) = some L' := h
          split at h
          · split at h
            · rw [← Option.some.inj h]
              exact Nat.le_refl _
            · cases h
          · cases h
        · have h : (match (generalizing := false) L with | 2 :: M => some (5 :: 2 :: M) | _ => none) = some L' := h
          split at h
          · rw [← Option.some.inj h]
            exact Nat.le_succ _
          · cases h
        · rw [pay_eq h]; exact Nat.le_succ _
        · have h : (match (generalizing := false) L with | 0 :: 5 :: M => some M | [0] => some [] | _ => none) = some L' := h
          split at h
          · rw [← Option.some.inj h]
            exact Nat.le_succ _
          · rw [← Option.some.inj h]
            exact Nat.le_succ _
          · cases h
        · rw [pay_eq h]; exact Nat.le_succ _
        · rw [pay_eq h]; exact Nat.le_succ _
        · have h : (match (generalizing := false) L with | 5 :: M => if nF M < 10 then some (3 :: M) else none | _ => none) = some L' := h
          split at h
          · split at h
            · rw [← Option.some.inj h]
              exact Nat.le_refl _
            · cases h
          · cases h
        · have h : (match (generalizing := false) L with | 3 :: M => some (9 :: M) | _ => none) = some L' := h
          split at h
          · rw [← Option.some.inj h]
            exact Nat.le_succ_of_le (Nat.le_succ _)
          · cases h
        · have h : (match (generalizing := false) L with | 9 :: M => some M | _ => none) = some L' := h
          split at h
          · rw [← Option.some.inj h]
            exact Nat.le_succ _
          · cases h
      have c1 : 1 ≤ clen (o, j, r, a, q, x, y) := by
        unfold clen
        dsimp only
        repeat' split
        all_goals omega
      omega
    · exfalso
      have : eff (o, j, r, a, q, x, y) L = none := by
        unfold eff
        dsimp only
        split
        all_goals first | rfl | omega
      rw [this] at h
      cases h
theorem len_cx : ∀ (code : List Ins) (L L' : List Nat), code.foldlM (fun L c => eff c L) L = some L' → code.length + nF L' ≤ 2 * cx code + nF L
  | [], L, L', h => by
    rw [show L = L' from Option.some.inj h]
    show 0 + _ ≤ _
    omega
  | c :: code, L, L', h => by
    rw [List.foldlM_cons] at h
    cases hM : eff c L with
    | none =>
      rw [hM] at h
      cases h
    | some M =>
      rw [hM] at h
      have i1 := len_cx code M L' h
      have i2 := eff_F hM
      unfold cx at i1 ⊢
      rw [List.map_cons, List.sum_cons, List.length_cons]
      omega
theorem PE.len (h : PE b n p e i op D code code1 vs cl W cu fs t s) : code.length ≤ 2 * cx code ∧ cx code ≤ 6408 := by
  have hcx := h.2.2.2.2.2.2.2.2.2.2.2.2
  obtain ⟨hi, e5, e6, e7, hkk, ho', he', hlt, hll⟩ := h.1.now
  have := len_cx code [] cu (PE.ly h)
  have h0 : nF [] = 0 := rfl
  exact ⟨by omega, by omega⟩
abbrev nuI : Ins := (26, 0, 0, 0, 0, 0, 0)
/-- a block ends, and neither writes -/
theorem PE.nul (h : PE b n p e i op D code code vs cl W (4 :: cu) fs t s) : PE b n p e i op D (code ++ [nuI]) (code ++ [nuI]) vs cl W cu (fs.1, code.length + 1, fs.2.2) t s := by
  obtain ⟨h1, hc', hr, ⟨w1, w2, -⟩, hW, hV, k1, k2, k3, k4, k5, k6, k7⟩ := h
  have hc : tgO code.length nuI := Or.inr (Or.inl (Nat.zero_le _))
  have e1 : cl.map (cK (code ++ [nuI])) = cl.map (cK code) := List.map_congr_left fun x hx => cK_app (k3.1 x hx).1
  have e2 : cl.map (rK e (code ++ [nuI])) = cl.map (rK e code) := List.map_congr_left fun x hx => rK_app (k3.1 x hx).1
  have eC : CA (code ++ [nuI]) = CA code := by
    rw [CA_app w1 hc]
    exact List.append_nil _
  have eR : RA e (code ++ [nuI]) = RA e code := by
    rw [RA_app w1 hc]
    exact List.append_nil _
  have wf : wfC (code ++ [nuI]) := wfC_app w1 (Or.inr (Or.inl (Nat.zero_le _)))
  refine ⟨h1, by rw [eC]; exact hc', by rw [eR]; exact hr, ⟨wf, wf, ⟨[], by rw [List.append_nil]⟩⟩, hW, hV, by rw [e1]; exact k1, by rw [e2]; exact k2, k3.app (fun z => absurd z (by simp)), k4.app (Nat.le_refl _) rfl (by unfold okI; simp) (Or.inr rfl), ?_, ?_, ?_⟩
  · rw [rl_app, rl_one, xl_app, xl_one]
    exact k5
  · rw [rl_app, rl_one]
    exact k6
  · rw [cx_app, cx_one]
    exact k7
theorem JP.nul {a : Nat} (h : JP code a code.length) : JP (code ++ [nuI]) a (code ++ [nuI]).length := fun m h1 h2 => by
  by_cases z : m < code.length
  · exact (h m h1 z).app z
  · have z : m = code.length := by
      rw [List.length_append, List.length_singleton] at h2
      omega
    subst z
    exact Or.inl (by rw [getD_last]; unfold noJ; simp)
theorem tgC_end (h : code.length < 99999) : tgC code code.length 0 = Int32.ofNat (cx code) := by
  unfold tgC
  rw [if_neg (by show ¬ code.length = 99999; omega), posC_len]
  rfl
theorem tgR_end (h : code.length < 99999) : tgR e code code.length 0 = Int32.ofNat (ob0 e + rl code) := by
  unfold tgR
  rw [if_neg (by show ¬ code.length = 99999; omega), posR_len]
  rfl
/-- a jump is told that it goes to the end -/
theorem PE.tgt {q r : Nat} {pl : Int32} (h : PE b n p e i op D code code vs cl W cu fs t s) (hq : q = 13 ∨ q = 14 ∨ q = 18 ∨ q = 24) (hm : m < code.length) (hcd : code.getD m dI = (q, unk, r, 0, pl, 0, 0)) (hf : m < fs.2.1) (ho : okI vs.length (q, code.length, r, 0, pl, 0, 0)) : ∃ t', cf_210 N X p (Int32.ofNat (posC code m)) (Int32.ofNat (cx code)) t = some (t', .inl none) ∧ PE b n p e i op D (code.set m (q, code.length, r, 0, pl, 0, 0)) (code.set m (q, code.length, r, 0, pl, 0, 0)) vs cl W cu fs t' (mA s 24 (upd (s.2.2.1 24) (ob0 e + posR code m) (Int32.ofNat (ob0 e + rl code)))) ∧ FR p e t t' s (mA s 24 (upd (s.2.2.1 24) (ob0 e + posR code m) (Int32.ofNat (ob0 e + rl code)))) := by
  obtain ⟨hl1, hl2⟩ := h.len
  have tc := tgC_end (code := code) (by omega)
  have tr := tgR_end (e := e) (code := code) (by omega)
  have k0 : (q, code.length, r, (0 : Int32), pl, (0 : Int32), (0 : Int32)).1 = (code.getD m dI).1 := by rw [hcd]
  have hC : ∃ x y lc, cI code (posC code m) (code.getD m dI) = (x, 0, y) :: lc ∧ cI code (posC code m) (q, code.length, r, 0, pl, 0, 0) = (x, Int32.ofNat (cx code), y) :: lc := by
    rw [hcd, ← tc]
    rcases hq with z | z | z | z <;> subst z
    · exact ⟨5, pl, [], rfl, rfl⟩
    · exact ⟨4, pl, [], rfl, rfl⟩
    · exact ⟨27, pl, [(2, cv r, pl)], rfl, rfl⟩
    · exact ⟨11, 0, [], rfl, rfl⟩
  have hR : ∃ x1 x3 x4 x5, rI e code (code.getD m dI) = [(x1, 0, x3, x4, x5)] ∧ rI e code (q, code.length, r, 0, pl, 0, 0) = [(x1, Int32.ofNat (ob0 e + rl code), x3, x4, x5)] := by
    rw [hcd, ← tr]
    rcases hq with z | z | z | z <;> subst z
    · exact ⟨14, 0, 0, pl, rfl, rfl⟩
    · exact ⟨15, 0, 0, 0, rfl, rfl⟩
    · exact ⟨18, Int32.ofNat r, 0, pl, rfl, rfl⟩
    · exact ⟨24, 0, 0, 0, rfl, rfl⟩
  obtain ⟨x, y, lc, c1, c2⟩ := hC
  obtain ⟨x1, x3, x4, x5, r1, r2⟩ := hR
  obtain ⟨t', b1, b2, b3, b4⟩ := c_amd (N := N) (X := X) h.2.1 hm (by omega) (clen_k k0) c1 c2
  obtain ⟨d1, d2⟩ := r_amda h.2.2.1 hm (rlen_k k0) r1 r2
  obtain ⟨g1, g2⟩ := h.amd (t' := t') hm k0 (by unfold noJ; show ¬ ¬ (q = 13 ∨ q = 14 ∨ q = 18 ∨ q = 23 ∨ q = 24); omega) (fun L => by rw [hcd]; rcases hq with z | z | z | z <;> subst z <;> rfl) (Nat.le_refl _) ho hf b2 d1 b3 b4 d2
  exact ⟨t', b1, g1, g2⟩
/-- such a jump is well -/
theorem okJ_tgt {q r : Nat} {pl : Int32} {L : List Nat} (hq : q = 13 ∨ q = 14 ∨ q = 18 ∨ q = 24) (hm : m < code.length) (hcd : code.getD m dI = (q, unk, r, 0, pl, 0, 0)) (ha : a ≤ code.length) (h1 : lyo (code.take m) = some L) (h2 : lyo code = some cu) (hj : jl (q, code.length, r, 0, pl, 0, 0) L cu) : okJ (code.set m (q, code.length, r, 0, pl, 0, 0)) a m := by
  have he : ∀ L, eff (q, code.length, r, 0, pl, 0, 0) L = eff (code.getD m dI) L := fun L => by rw [hcd]; rcases hq with z | z | z | z <;> subst z <;> rfl
  unfold okJ
  rw [getD_set_eq hm]
  refine Or.inr ⟨ha, by rw [List.length_set]; exact Nat.le_refl _, fun z => ?_, L, cu, ?_, ?_, hj⟩
  · have z : q = 23 := z
    omega
  · rw [lyo_set_take he]
    exact h1
  · rw [lyo_set_take he]
    show lyo (code.take code.length) = _
    rw [List.take_length]
    exact h2
/-- the picture put together anew -/
theorem PE.asm (h : PE b n p e i op D code code vs cl W cu fs t s) (hq : pR b n i' op' t' s') (hc : cCd t' p (CA code2)) (hr : rCd s' e (RA e code2)) (hw : wfC code2) (hV : VR vs' t' s') (g : gL (eM p) (aM p) t t') (f1 : ∀ q, q = 29 ∨ q = 44 → s'.1 q = s.1 q) (f2 : ∀ q, q = 30 ∨ q = 31 ∨ q = 32 ∨ q = 38 ∨ q = 39 ∨ q = 40 ∨ q = 41 ∨ q = 43 → s'.2.2.1 q = s.2.2.1 q) (f3 : ∀ q, q = 33 ∨ q = 42 → s'.2.2.2 q = s.2.2.2 q) (hpos : ∀ j, j ≤ code.length → posC code2 j = posC code j ∧ posR code2 j = posR code j) (hx : okX code2 cl cl) (ht : TY fs' vs'.length cu' code2) (d1 : rl code2 + xl code2 + cl.length + D' ≤ i' + 1) (d2 : cl.length ≤ rl code2) (d3 : cx code2 + 3 * D' ≤ 4 * i' + 4) : PE b n p e i' op' D' code2 code2 vs' cl W cu' fs' t' s' := by
  obtain ⟨h1, hc', hr', ⟨w1, w2, w3⟩, hW, hV', k1, k2, k3, k4, k5, k6, k7⟩ := h
  have hp := hc'.2.1
  have e1 : cl.map (cK code2) = cl.map (cK code) := List.map_congr_left fun x hx => by
    unfold cK
    rw [(hpos x.1 (Nat.le_of_lt (k3.1 x hx).1)).1]
  have e2 : cl.map (rK e code2) = cl.map (rK e code) := List.map_congr_left fun x hx => by
    unfold rK
    rw [(hpos x.1 (Nat.le_of_lt (k3.1 x hx).1)).2]
  exact ⟨hq, hc, hr, ⟨hw, hw, ⟨[], by rw [List.append_nil]⟩⟩, hW.keep (f1 44 (by omega)) (fun q z => f2 q (by omega)) (f3 42 (by omega)), hV, by rw [e1]; exact k1.keep g (fun z => by rcases hp with y | y <;> omega) (fun _ z => by rcases hp with y | y <;> omega), by rw [e2]; exact k2.keep (f1 29 (by omega)) (fun q z => f2 q (by omega)) (f3 33 (by omega)), hx, ht, d1, d2, d3⟩
theorem eP_M : ∀ k f, eP k f → eM p k f := fun k f z => by
  rcases z with ⟨z1, z2⟩ | ⟨z1, z2⟩
  · exact Or.inl ⟨z1, z2⟩
  · exact Or.inr (Or.inl ⟨z1, by omega⟩)
theorem eV_M : ∀ k f, eV k f → eM p k f := fun k f z => by
  rcases z with ⟨z1, z2⟩ | ⟨z1, z2⟩
  · exact Or.inl ⟨z1, z2⟩
  · exact Or.inr (Or.inl ⟨z1, by omega⟩)
theorem gM_Q (g : gL (eM p) (aM p) t t') : gL (eQ p) (aQ p) t t' := g.mono (fun k f z => by
  rcases z with z | ⟨z1, z2⟩ | z
  · exact Or.inl z
  · exact Or.inr (Or.inl ⟨z1, by omega⟩)
  · exact Or.inr (Or.inr z)) (fun k z => by unfold aQ; omega)
/-- a block is taken down -/
theorem rB.close {q : Nat} {x2 x3 : Int32} (h : rB s (Bs ++ [(Int32.ofNat q, x2, x3)])) (hq : q ≤ 6) : rB (mI s 37 (Int32.ofNat Bs.length)) Bs ∧ fBk s (mI s 37 (Int32.ofNat Bs.length)) ∧ s.2.2.1 36 Bs.length = x3 ∧ Bs.length ≤ 9 ∧ mf_278_6 N s = (if q = 0 then mf_278_72 N x2 (mI s 37 (Int32.ofNat Bs.length)) else if q = 1 then mf_278_102 N x2 (mI s 37 (Int32.ofNat Bs.length)) else if q = 3 ∨ q = 4 then mf_278_155 N x2 (mI s 37 (Int32.ofNat Bs.length)) else if q = 5 then mf_278_184 N x2 (mI s 37 (Int32.ofNat Bs.length)) else mf_278_239 N x2 (mI s 37 (Int32.ofNat Bs.length))) := by
  obtain ⟨h1, h2, h3⟩ := h
  rw [List.length_append, List.length_singleton] at h1 h2
  have h4 := h3 Bs.length (by rw [List.length_append, List.length_singleton]; omega)
  rw [List.getElem_append_right (Nat.le_refl _)] at h4
  simp only [Nat.sub_self, List.getElem_cons_zero] at h4
  obtain ⟨q1, q2, q3⟩ := h4
  refine ⟨⟨rfl, by omega, fun k hk => ?_⟩, ⟨fun q r => if_neg r, fun _ _ => rfl, fun _ _ => rfl, fun _ _ => rfl⟩, q3, by omega, ?_⟩
  · have h5 := h3 k (by rw [List.length_append]; omega)
    rw [List.getElem_append_left hk] at h5
    exact h5
  · have hv : q = 0 ∨ q = 1 ∨ q = 2 ∨ q = 3 ∨ q = 4 ∨ q = 5 ∨ q = 6 := by omega
    rcases hv with z | z | z | z | z | z | z <;> subst z
    · have g : (Int32.toInt (Int32.ofNat 0) < 0 ∨ 5 < Int32.toInt (Int32.ofNat 0)) = False := by decide
      unfold mf_278_6
      simp (disch := omega) only [ev_S, ev_P, ↓reduceIte, Nat.reduceEqDiff, Nat.reduceLeDiff, Nat.reduceAdd, Nat.reduceMul, Nat.reduceSub, reduceCtorEq, l32_0, l32_1, l32_2, l32_3, l32_4, l32_5, l32_6, l32_7, l32_8, l32_9, l32_10, l32_11, l32_12, l32_13, l32_14, l32_15, l32_16, l32_17, l32_18, l32_19, l32_20, l32_21, l32_22, l32_23, l32_24, l32_25, l32_26, l32_27, l32_28, l32_29, l32_33, l32_40, l32_41, l32_44, l32_45, l32_59, l32_61, l32_91, l32_93, l32_123, l32_125, h1, q1, q2, g]
    · have g : (Int32.toInt (Int32.ofNat 1) < 0 ∨ 5 < Int32.toInt (Int32.ofNat 1)) = False := by decide
      unfold mf_278_6
      simp (disch := omega) only [ev_S, ev_P, ↓reduceIte, Nat.reduceEqDiff, Nat.reduceLeDiff, Nat.reduceAdd, Nat.reduceMul, Nat.reduceSub, reduceCtorEq, l32_0, l32_1, l32_2, l32_3, l32_4, l32_5, l32_6, l32_7, l32_8, l32_9, l32_10, l32_11, l32_12, l32_13, l32_14, l32_15, l32_16, l32_17, l32_18, l32_19, l32_20, l32_21, l32_22, l32_23, l32_24, l32_25, l32_26, l32_27, l32_28, l32_29, l32_33, l32_40, l32_41, l32_44, l32_45, l32_59, l32_61, l32_91, l32_93, l32_123, l32_125, h1, q1, q2, g]
    · have g : (Int32.toInt (Int32.ofNat 2) < 0 ∨ 5 < Int32.toInt (Int32.ofNat 2)) = False := by decide
      unfold mf_278_6
      simp (disch := omega) only [ev_S, ev_P, ↓reduceIte, Nat.reduceEqDiff, Nat.reduceLeDiff, Nat.reduceAdd, Nat.reduceMul, Nat.reduceSub, reduceCtorEq, l32_0, l32_1, l32_2, l32_3, l32_4, l32_5, l32_6, l32_7, l32_8, l32_9, l32_10, l32_11, l32_12, l32_13, l32_14, l32_15, l32_16, l32_17, l32_18, l32_19, l32_20, l32_21, l32_22, l32_23, l32_24, l32_25, l32_26, l32_27, l32_28, l32_29, l32_33, l32_40, l32_41, l32_44, l32_45, l32_59, l32_61, l32_91, l32_93, l32_123, l32_125, h1, q1, q2, g]
    · have g : (Int32.toInt (Int32.ofNat 3) < 0 ∨ 5 < Int32.toInt (Int32.ofNat 3)) = False := by decide
      unfold mf_278_6
      simp (disch := omega) only [ev_S, ev_P, ↓reduceIte, Nat.reduceEqDiff, Nat.reduceLeDiff, Nat.reduceAdd, Nat.reduceMul, Nat.reduceSub, reduceCtorEq, l32_0, l32_1, l32_2, l32_3, l32_4, l32_5, l32_6, l32_7, l32_8, l32_9, l32_10, l32_11, l32_12, l32_13, l32_14, l32_15, l32_16, l32_17, l32_18, l32_19, l32_20, l32_21, l32_22, l32_23, l32_24, l32_25, l32_26, l32_27, l32_28, l32_29, l32_33, l32_40, l32_41, l32_44, l32_45, l32_59, l32_61, l32_91, l32_93, l32_123, l32_125, h1, q1, q2, g]
    · have g : (Int32.toInt (Int32.ofNat 4) < 0 ∨ 5 < Int32.toInt (Int32.ofNat 4)) = False := by decide
      unfold mf_278_6
      simp (disch := omega) only [ev_S, ev_P, ↓reduceIte, Nat.reduceEqDiff, Nat.reduceLeDiff, Nat.reduceAdd, Nat.reduceMul, Nat.reduceSub, reduceCtorEq, l32_0, l32_1, l32_2, l32_3, l32_4, l32_5, l32_6, l32_7, l32_8, l32_9, l32_10, l32_11, l32_12, l32_13, l32_14, l32_15, l32_16, l32_17, l32_18, l32_19, l32_20, l32_21, l32_22, l32_23, l32_24, l32_25, l32_26, l32_27, l32_28, l32_29, l32_33, l32_40, l32_41, l32_44, l32_45, l32_59, l32_61, l32_91, l32_93, l32_123, l32_125, h1, q1, q2, g]
    · have g : (Int32.toInt (Int32.ofNat 5) < 0 ∨ 5 < Int32.toInt (Int32.ofNat 5)) = False := by decide
      unfold mf_278_6
      simp (disch := omega) only [ev_S, ev_P, ↓reduceIte, Nat.reduceEqDiff, Nat.reduceLeDiff, Nat.reduceAdd, Nat.reduceMul, Nat.reduceSub, reduceCtorEq, l32_0, l32_1, l32_2, l32_3, l32_4, l32_5, l32_6, l32_7, l32_8, l32_9, l32_10, l32_11, l32_12, l32_13, l32_14, l32_15, l32_16, l32_17, l32_18, l32_19, l32_20, l32_21, l32_22, l32_23, l32_24, l32_25, l32_26, l32_27, l32_28, l32_29, l32_33, l32_40, l32_41, l32_44, l32_45, l32_59, l32_61, l32_91, l32_93, l32_123, l32_125, h1, q1, q2, g]
    · have g : (Int32.toInt (Int32.ofNat 6) < 0 ∨ 5 < Int32.toInt (Int32.ofNat 6)) = True := by decide
      unfold mf_278_6
      simp (disch := omega) only [ev_S, ev_P, ↓reduceIte, Nat.reduceEqDiff, Nat.reduceLeDiff, Nat.reduceAdd, Nat.reduceMul, Nat.reduceSub, reduceCtorEq, l32_0, l32_1, l32_2, l32_3, l32_4, l32_5, l32_6, l32_7, l32_8, l32_9, l32_10, l32_11, l32_12, l32_13, l32_14, l32_15, l32_16, l32_17, l32_18, l32_19, l32_20, l32_21, l32_22, l32_23, l32_24, l32_25, l32_26, l32_27, l32_28, l32_29, l32_33, l32_40, l32_41, l32_44, l32_45, l32_59, l32_61, l32_91, l32_93, l32_123, l32_125, h1, q1, q2, g]
/-- ( E ) and the jump behind it -/
theorem p_cond {w : Nat} {pl top : Int32} (hN : 170000 ≤ N) (hX : oX N X) (hY : oY X) (hw : w = 1 ∨ w = 3) (h : PE b n p e i op D code code vs cl W (5 :: cu) fs t s) (hwn : rWn s) (hb : rB s Bs) (hB : nF cu + 1 ≤ op) : (∃ t' s' i' seg vs' cl', cf_183 N X pl t = some (t', .inl (some (.int (Int32.ofNat (cx (code ++ seg)))))) ∧ mf_279_138 N pl (Int32.ofNat w) top s = mo_bv (mf_276 N (Int32.ofNat w) (Int32.ofNat (ob0 e + rl (code ++ seg))) top s') (fun s => some (s, none)) ∧ i + 2 < i' ∧ PE b n p e i' op (D + 1) (code ++ seg ++ [(13, unk, 0, 0, pl, 0, 0)]) (code ++ seg ++ [(13, unk, 0, 0, pl, 0, 0)]) vs' cl' [] (4 :: cu) (fs.1, (code ++ seg).length + 1, fs.2.2) t' s' ∧ lyo (code ++ seg) = some (0 :: 5 :: cu) ∧ (∀ c ∈ (code ++ seg).drop fs.2.1, noJ c) ∧ FR p e t t' s s') ∨ (∃ t' s', cf_183 N X pl t = some (t', .inr ()) ∧ mf_279_138 N pl (Int32.ofNat w) top s = some (s', none) ∧ pF t' s' ∧ FXs p e t t' s s') := by
  have hR : cf_183 N X pl t = cH N X 40 41 (fun g => cf_183_17 N X pl g) t := rfl
  have hM : mf_279_138 N pl (Int32.ofNat w) top s = rH N 41 (mf_268 N (Int32.ofNat 40) s) (fun s => mo_bi (mf_271 N (Int32.ofNat 14) (Int32.ofNat 0) (Int32.ofNat 0) pl s) (fun s k => mo_bv (mf_276 N (Int32.ofNat w) k top s) (fun s => some (s, none)))) := by
    rcases hw with z | z <;> subst z <;> rfl
  rw [hR, hM]
  rcases p_brk (c1 := 40) (c2 := 41) hN hX hY (by omega) h hwn with ⟨t2, s2, i2, seg, vs2, cl2, b1, b2, b3, bv, b4, b5⟩ | ⟨t2, s2, b1, b2, b3, b4⟩
  · have hP : kP t2 2 1 = some p := b4.2.1.1
    have hp : (p = 12 ∨ p = 21) = True := eq_true b4.2.1.2.1
    obtain ⟨t3, s3, c1, c2, c3, c4, c5⟩ := PEg.bo (N := N) (X := X) (js := (code ++ seg).length + 1) (D' := D + 1) (cu' := 4 :: cu) (c := (13, unk, 0, 0, pl, 0, 0)) (k := Int32.ofNat 5) (a := Int32.ofNat 0) (v := pl) (x1 := Int32.ofNat 14) (x2 := Int32.ofNat 0) (x3 := Int32.ofNat 0) (x4 := pl) b4 (fun z => absurd z (by simp)) (Or.inr rfl) rfl rfl (Or.inl rfl) (by show (if nF cu < 10 then some (4 :: cu) else none) = _; rw [if_pos (by have := h.1.2.2.2.1; omega)]) (by unfold okI; simp) (by omega) (Or.inl (Nat.le_refl 1))
    refine Or.inl ⟨t3, s3, i2, seg, vs2, cl2, ?_, ?_, b3, c3, b4.ly, b4.nj.2, b5.tr c4⟩
    · rw [b1]
      unfold cf_183_17 cf_183_27
      simp (disch := omega) only [ev_S, ev_C, ↓reduceIte, Nat.reduceEqDiff, Nat.reduceLeDiff, Nat.reduceAdd, Nat.reduceMul, Nat.reduceSub, reduceCtorEq, l32_0, l32_1, l32_2, l32_3, l32_4, l32_5, l32_6, l32_7, l32_8, l32_9, l32_10, l32_11, l32_12, l32_13, l32_14, l32_15, l32_16, l32_17, l32_18, l32_19, l32_20, l32_21, l32_22, l32_23, l32_24, l32_25, l32_26, l32_27, l32_28, l32_29, l32_33, l32_40, l32_41, l32_44, l32_45, l32_59, l32_61, l32_91, l32_93, l32_123, l32_125, hP, hp, c1]
    · rw [b2, c2]
      rfl
  · obtain ⟨m, m1, m2⟩ := h.fU hb b3 b4
    obtain ⟨s3, c1, c2, c3⟩ := r_orderF (N := N) (x1 := Int32.ofNat 14) (x2 := Int32.ofNat 0) (x3 := Int32.ofNat 0) (x4 := pl) m2
    obtain ⟨s4, d1, d2⟩ := r_blockF (N := N) (x1 := Int32.ofNat w) (x2 := Int32.ofNat (ob0 e + m)) (x3 := top) (c3 (by omega))
    refine Or.inr ⟨t2, s4, b1 _, ?_, b3.tl (c2.tr d2), b4.S.tl (c2.tr d2)⟩
    rw [b2, c1]
    show mo_bv (mf_276 N (Int32.ofNat w) (Int32.ofNat (ob0 e + m)) top s3) _ = _
    rw [d1]
    rfl
end TGT
