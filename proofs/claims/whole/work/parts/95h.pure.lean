/-! ===== PURE: run (9): all of a PACK is measured ===== -/
abbrev fMe (s s' : mS) : Prop := mfr (fun q => q = 55 ∨ q = 56 ∨ q = 57) (fun _ => False) (fun q => q = 52 ∨ q = 53 ∨ q = 54) (fun _ => False) s s'
def MeP (N F n d : Nat) (l : List (Th n)) (i : Nat) : Prop := ∀ (a : Nat) (s : mS) (D B : Nat), D ≤ 10 → s.1 55 = Int32.ofNat (d + 1) → s.1 56 = Int32.ofNat D → s.1 57 = Int32.ofNat B → s.2.2.1 52 d = Int32.ofNat a → s.2.2.1 54 d = Int32.ofNat i → Wy (s.2.2.1 47) a (LayN (s.2.2.1 47) (Rf F)) (vP n l) → a + wV wn (vP n l) ≤ 166300 → ∃ k s', k ≤ 2 * ((l.drop i).map (bulk n)).sum + 1 ∧ (∀ f, mf_298_L1 N (f + k) 0 s = mf_298_L1 N f 0 s') ∧ s'.1 55 = Int32.ofNat d ∧ s'.1 56 = Int32.ofNat (max D (d + 1 + mxL ((l.drop i).map (dT n)))) ∧ s'.1 57 = Int32.ofNat (B + ((l.drop i).map (bulk n)).sum) ∧ (∀ j, j < d → s'.2.2.1 52 j = s.2.2.1 52 j ∧ s'.2.2.1 54 j = s.2.2.1 54 j) ∧ fMe s s'
section MED
variable {N F : Nat}
theorem mx2_max (a b : Nat) : mx2 a b = max a b := by
  unfold mx2
  split <;> omega
theorem vw_pack : ∀ {n : Nat} {x : Th n}, kdV (vw ⟨n, x⟩) = 3 → ∃ (m : Nat) (l : List (Th m)), n = m + 1 ∧ vw ⟨n, x⟩ = vP m l ∧ bulk n x = 1 + (l.map (bulk m)).sum ∧ dT n x = 1 + mxL (l.map (dT m))
  | 0, .inl z, h => absurd h (by show ¬ (0 : Int32) = 3; decide)
  | 0, .inr (.inl r), h => absurd h (by show ¬ (1 : Int32) = 3; decide)
  | 0, .inr (.inr q), h => absurd h (by show ¬ (2 : Int32) = 3; decide)
  | m + 1, .inl (.inl z), h => absurd h (by show ¬ (0 : Int32) = 3; decide)
  | m + 1, .inl (.inr (.inl r)), h => absurd h (by show ¬ (1 : Int32) = 3; decide)
  | m + 1, .inl (.inr (.inr q)), h => absurd h (by show ¬ (2 : Int32) = 3; decide)
  | m + 1, .inr l, h => ⟨m, l, rfl, rfl, rfl, rfl⟩
theorem me_list (hN : 170000 ≤ N) (hF : F ≤ 166300) {n d : Nat} (hd : d ≤ 3) (l : List (Th n)) (hp : ∀ m (l' : List (Th m)), n = m + 1 → MeP N F m (d + 1) l' 0) (hn : n + d ≤ 3) : ∀ (j i : Nat), i + j = l.length → MeP N F n d l i := by
  intro j
  induction j with
  | zero =>
    intro i hi a s D B hD h55 h56 h57 h52 h54 H ha
    have hi : i = l.length := hi
    subst hi
    rw [List.drop_length]
    refine ⟨1, _, by show 1 ≤ 2 * 0 + 1; omega, fun f => me_end (by omega) (by omega) h55 h56 h52 h54 H ha f, rfl, ?_, h57, fun _ _ => ⟨rfl, rfl⟩, ⟨fun q r => ?_, fun _ _ => rfl, fun _ _ => rfl, fun _ _ => rfl⟩⟩
    · show Int32.ofNat (mx2 D (d + 1)) = Int32.ofNat (max D (d + 1 + 0))
      rw [mx2_max]
    · show (if q = 55 then _ else if q = 56 then _ else s.1 q) = _
      rw [if_neg (by omega), if_neg (by omega)]
  | succ j ih =>
    intro i hi a s D B hD h55 h56 h57 h52 h54 H ha
    have hi1 : i < l.length := by omega
    obtain ⟨p1, p2, p3⟩ := me_part (N := N) hN hF (by omega) (by omega) h55 h56 h57 h52 h54 H ha hi1
    have hdr : l.drop i = l[i] :: l.drop (i + 1) := List.drop_eq_getElem_cons hi1
    have hm : mxL ((l.drop i).map (dT n)) = max (dT n l[i]) (mxL ((l.drop (i + 1)).map (dT n))) := by
      rw [hdr]
      rfl
    have hb : ((l.drop i).map (bulk n)).sum = bulk n l[i] + ((l.drop (i + 1)).map (bulk n)).sum := by
      rw [hdr, List.map_cons, List.sum_cons]
    have hdt := dT_le n l[i]
    have hbl : 1 ≤ bulk n l[i] := by
      have : bulk n l[i] = bulkV (vw ⟨n, l[i]⟩) := vw_bulk ⟨n, l[i]⟩
      rw [this]
      cases vw ⟨n, l[i]⟩ with
      | inl z => exact Nat.le_refl _
      | inr v => rcases v with r | q | l'
                 · exact Nat.le_add_right _ _
                 · exact Nat.le_add_right _ _
                 · exact Nat.le_add_right _ _
    rw [hm, hb]
    -- a part that is no PACK: one round
    have flat : ∀ b, b = bulk n l[i] → dT n l[i] = 0 → (∀ f, mf_298_L1 N (f + 1) 0 s = mf_298_L1 N f 0 (meS s D d i (B + b))) → ∃ k s', k ≤ 2 * (bulk n l[i] + ((l.drop (i + 1)).map (bulk n)).sum) + 1 ∧ (∀ f, mf_298_L1 N (f + k) 0 s = mf_298_L1 N f 0 s') ∧ s'.1 55 = Int32.ofNat d ∧ s'.1 56 = Int32.ofNat (max D (d + 1 + max (dT n l[i]) (mxL ((l.drop (i + 1)).map (dT n))))) ∧ s'.1 57 = Int32.ofNat (B + (bulk n l[i] + ((l.drop (i + 1)).map (bulk n)).sum)) ∧ (∀ j, j < d → s'.2.2.1 52 j = s.2.2.1 52 j ∧ s'.2.2.1 54 j = s.2.2.1 54 j) ∧ fMe s s' := fun b hb0 hd0 hr => by
      obtain ⟨k, s', a1, a2, a3, a4, a5, a6, a7⟩ := ih (i + 1) (by omega) a (meS s D d i (B + b)) (mx2 D (d + 1)) (B + b) (by rw [mx2_max]; omega) h55 rfl rfl h52 (if_pos rfl) H ha
      refine ⟨k + 1, s', by omega, fun f => ?_, a3, ?_, ?_, fun y hy => ⟨(a6 y hy).1, (a6 y hy).2.trans ?_⟩, mfr.tr (s1 := meS s D d i (B + b)) ⟨fun q r => ?_, fun _ _ => rfl, fun q r => ?_, fun _ _ => rfl⟩ a7⟩
      · rw [← Nat.add_assoc, hr, a2]
      · rw [a4, mx2_max, hd0]
        congr 1
        omega
      · rw [a5, hb0, Nat.add_assoc]
      · exact if_neg (by omega)
      · show (if q = 57 then _ else if q = 56 then _ else s.1 q) = _
        rw [if_neg (by omega), if_neg (by omega)]
      · exact if_neg (by omega)
    have hbv : bulk n l[i] = bulkV (vw ⟨n, l[i]⟩) := vw_bulk ⟨n, l[i]⟩
    have iv : intT n l[i] = intV (vw ⟨n, l[i]⟩) := vw_int ⟨n, l[i]⟩
    cases hz : intT n l[i] with
    | some z =>
      have ev := intV_s (iv.symm.trans hz)
      refine flat 1 (by rw [hbv, ev]; rfl) (dN_0 (x := ⟨n, l[i]⟩) (by rw [ev]; show ¬ (0 : Int32) = 3; decide)) (p1 z hz)
    | none =>
      by_cases hk : kdV (vw ⟨n, l[i]⟩) = 3
      · obtain ⟨c, c1, c2⟩ := p3 hz hk
        obtain ⟨m, l', e1, e2, e3, e4⟩ := vw_pack hk
        have Lc := LayN_iff.mp c1
        have hlt := (LayN.lt c1).1
        rw [e2] at Lc hlt
        obtain ⟨k1, s1, b1, b2, b3, b4, b5, b6, b7⟩ := hp m l' e1 c (gin (meS s D d i (B + 1)) (d + 1) c 0) (mx2 D (d + 1)) (B + 1) (by rw [mx2_max]; omega) rfl rfl rfl (if_pos rfl) (if_pos rfl) Lc.2 (by omega)
        rw [List.drop_zero] at b1 b4 b5
        have g47 : s1.2.2.1 47 = s.2.2.1 47 := b7.2.2.1 47 (by decide)
        have g52 := (b6 d (by omega)).1
        have g54 := (b6 d (by omega)).2
        obtain ⟨k2, s2, d1, d2, d3, d4, d5, d6, d7⟩ := ih (i + 1) (by omega) a s1 _ _ (by rw [mx2_max]; omega) b3 b4 b5 (g52.trans ((if_neg (by omega)).trans h52)) (g54.trans ((if_neg (by omega)).trans (if_pos rfl))) (by rw [g47]; exact H) ha
        refine ⟨k2 + k1 + 1, s2, by omega, fun f => ?_, d3, ?_, ?_, fun y hy => ⟨(d6 y hy).1.trans ((b6 y (by omega)).1.trans (if_neg (by omega))), (d6 y hy).2.trans ((b6 y (by omega)).2.trans ((if_neg (by omega)).trans (if_neg (by omega))))⟩, mfr.tr (s1 := s1) (mfr.tr (s1 := gin (meS s D d i (B + 1)) (d + 1) c 0) ⟨fun q r => ?_, fun _ _ => rfl, fun q r => ?_, fun _ _ => rfl⟩ b7) d7⟩
        · rw [show f + (k2 + k1 + 1) = (f + k2 + k1) + 1 by omega, c2, b2, d2]
        · rw [d4, mx2_max, e4]
          congr 1
          omega
        · rw [d5, e3]
          congr 1
          omega
        · show (if q = 55 then _ else if q = 57 then _ else if q = 56 then _ else s.1 q) = _
          rw [if_neg (by omega), if_neg (by omega), if_neg (by omega)]
        · show (if q = 54 then _ else if q = 53 then _ else if q = 52 then _ else if q = 54 then _ else s.2.2.1 q) = _
          rw [if_neg (by omega), if_neg (by omega), if_neg (by omega), if_neg (by omega)]
      · have hpb : pbV (vw ⟨n, l[i]⟩) = bulk n l[i] := by
          rw [hbv]
          rw [hz] at iv
          cases hv : vw ⟨n, l[i]⟩ with
          | inl z =>
            rw [hv] at iv
            cases iv
          | inr v =>
            rcases v with r | q | l'
            · rfl
            · rfl
            · rw [hv] at hk
              exact absurd rfl hk
        exact flat _ hpb (dN_0 (x := ⟨n, l[i]⟩) hk) (p2 hz hk)
theorem me_dfs (hN : 170000 ≤ N) (hF : F ≤ 166300) : ∀ (n d : Nat), n + d ≤ 3 → ∀ (l : List (Th n)) (j i : Nat), i + j = l.length → MeP N F n d l i := by
  intro n
  induction n with
  | zero => exact fun d hd l j i hj => me_list hN hF (by omega) l (fun m l' e => by omega) hd j i hj
  | succ n ih =>
    intro d hd l j i hj
    refine me_list hN hF (by omega) l (fun m l' e => ?_) hd j i hj
    have e : n = m := by omega
    subst e
    exact ih (d + 1) (by omega) l' l'.length 0 (Nat.zero_add _)
end MED
