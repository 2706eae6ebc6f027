/-! ===== PURE: run (105): a new thing comes in others' stead ===== -/
section VOP
variable {N : Nat} {X : Nat → Option zz_C} {t0 t t1 t2 : cS} {s0 s s' s1 s2 : mS} {u w f f' p h fu m m' d d' n k b z j jn k0 nb : Nat} {code : List Ins} {Fs : List Fn} {T T' T1 : Ty} {out out' : List Int32} {F G : List Fm} {sh sh' S0 : Nat → Option Nod} {vs vs' : List (Option Nod)} {I I' J : List It} {q r pl kk : Int32} {v : Int64} {it : It} {x : Nod} {l : List Nod} {c : Ins} {L L' : List Nat} {g : Fn} {a a' : Fm} {ans : Ans}
theorem CY.low (C : CY t0 t p code Fs fu S0 u w ((m, d, vs, J ++ I') :: G) sh T out) (hJ : ∀ y ∈ J, ¬ y.1 = 3) : CY t0 t p code Fs fu S0 u w ((m', d', vs, I') :: G) sh T out := by
  obtain ⟨c1, ⟨e1, e2, e3, e4, e5, e6, e7, e8⟩, c3⟩ := C
  have eC := cStk_app (m := m) (d := d) (m' := m') (d' := d') (vs := vs) (J := J) (I := I') (G := G)
  have eT : tStk ((m', d', vs, I') :: G) = tStk ((m, d, vs, J ++ I') :: G) := by
    show tIt _ _ I' ++ _ = tIt _ _ (J ++ I') ++ _
    rw [tIt_app hJ]
  rw [eC] at e1
  exact ⟨c1, ⟨e1.app, e2, by rw [eT]; exact e3, e4, by rw [eT]; exact e5, e6, e7, by rw [eT]; exact e8⟩, c3⟩
/-- the reference after work on values -/
theorem RB.vf (B : RB s0 s1 h code Fs fu T1 out) (hv : vfr nb f s1 s2) (hf : 154242 ≤ f) (h62 : s2.1 62 = Int32.ofNat k) : RBk s0 s2 h code Fs fu (T1.1, k, T1.2.2) out (s2.1 66) (s2.1 67) := by
  obtain ⟨a1, ⟨b1, b2, b3, b4, b5⟩, a3, a4, a5⟩ := B
  have iq : ∀ q, ¬ vfI q → s2.1 q = s1.1 q := hv.1.1
  have aq : ∀ q, ¬ vfA q → s2.2.2.1 q = s1.2.2.1 q := hv.1.2.2.1
  refine ⟨a1.keep (fun q q1 q2 => aq q (by unfold vfA; omega)), ⟨?_, ?_, h62, ?_, ?_⟩, ⟨rfl, rfl⟩, a4.ch (iq 87 (by unfold vfI; omega)) (aq 86 (by unfold vfA; omega)), a5.tr ⟨⟨fun q r => iq q (by unfold iRn at r; unfold vfI; omega), hv.1.2.1, fun q r => aq q (by unfold aRn at r; unfold vfA; omega), hv.1.2.2.2⟩, fun y hy => hv.2.2 y (by omega)⟩⟩
  · rw [iq 61 (by unfold vfI; omega)]; exact b1
  · rw [iq 60 (by unfold vfI; omega)]; exact b2
  · rw [iq 63 (by unfold vfI; omega)]; exact b4
  · rw [iq 64 (by unfold vfI; omega)]; exact b5
theorem RM0.vf (M : RM0 s1 f h code ((m, d, vs, I') :: G) sh) (hv : vfr nb f s1 s2) (hnb : nb = (rStk ((m, d, vs, I') :: G)).length) (hf : f ≤ f') (h48 : s2.1 48 = Int32.ofNat f') : RM0 s2 f' h code ((m', d', vs, I') :: G) sh := by
  have iq : ∀ q, ¬ vfI q → s2.1 q = s1.1 q := hv.1.1
  have aq : ∀ q, ¬ vfA q → s2.2.2.1 q = s1.2.2.1 q := hv.1.2.2.1
  refine RM0.mv M (fun q r => aq q (by unfold vfA; omega)) (iq 73 (by unfold vfI; omega)) (iq 79 (by unfold vfI; omega)) hf hv.2.2 h48 ?_ rfl rfl
  refine M.1.mono (fun vv xx _ z => rvl.up z hf hv.2.2) (fun i hi => ?_)
  have := hv.2.1 i (by rw [hnb]; exact hi)
  rw [this.1, this.2]
/-- the run ends by what was made -/
theorem end11 {t2 : cS} {sf : mS} (C : CY t0 t2 p code Fs fu S0 u w F sh T1 out) (B : RBk s0 sf h code Fs fu T1 out (Int32.ofNat 11) pl) (hk0 : k0 ≤ 5) (hc : ∀ t3, cf_156 N X (Int32.ofNat 11) pl (Int32.ofNat 0) t2 = some (t3, .inl none) → ∀ Q, cf_141_L4 N X (Q + k0) 0 (Int32.ofNat n) t = cf_141_L4 N X Q 0 (Int32.ofNat (n + k0)) t3) (hs : ∀ Q x2, mf_68_L10 N (Q + (0 + 1)) 0 x2 s = mo_bi (mf_312 N sf) (fun s3 y => mf_68_L10 N Q 0 x2 s3)) (hn : n ≤ 597000) (ho : out.length ≤ 200000000) : GO N X t0 s0 p h code Fs fu S0 t s n := by
  have ef := c_fallE (N := N) (X := X) (t := t2) (k := 11) (q := pl) (r := Int32.ofNat 0) (Or.inl (by omega)) (by omega)
  refine Or.inr ⟨k0 + 1, 2, _, sf, by omega, by omega, fun Q => ?_, fun Q x2 => ?_, tr_end (k := 11) (r := Int32.ofNat 0) (by omega) C B rfl ho⟩
  · rw [show Q + (k0 + 1) = Q + 1 + k0 by omega, hc _ ef (Q + 1)]
    exact c_off rfl (by omega)
  · rw [show Q + 2 = Q + 1 + (0 + 1) by omega, hs (Q + 1) x2]
    have h66 : sf.1 66 = Int32.ofNat 11 := B.2.2.1.1
    have e1 : mf_312 N sf = some (sf, some (.int (Int32.ofNat 0))) := by
      unfold mf_312 mf_312_0 mf_312_9
      simp (disch := omega) only [ev_S, ev_P, ↓reduceIte, Nat.reduceEqDiff, Nat.reduceLeDiff, Nat.reduceAdd, Nat.reduceMul, Nat.reduceSub, reduceCtorEq, l32_0, l32_1, l32_2, l32_3, l32_4, l32_5, l32_6, l32_7, l32_8, l32_9, l32_10, l32_11, l32_12, l32_13, l32_14, l32_15, l32_16, l32_17, l32_18, l32_19, l32_20, l32_21, l32_22, l32_23, l32_24, l32_25, l32_26, l32_27, l32_28, l32_29, l32_33, l32_40, l32_41, l32_44, l32_45, l32_59, l32_61, l32_91, l32_93, l32_123, l32_125, h66]
    rw [e1, ev_bi]
    show mf_68_258 N (mf_68_L10 N Q) x2 sf = _
    unfold mf_68_258 mf_68_265
    by_cases c : sf.1 73 ≤ 0
    · rw [if_pos c]
    · rw [if_neg c, h66]
      rfl
theorem vop {JK : List It} (hN : 170000 ≤ N) (hk0 : 1 ≤ k0 ∧ k0 ≤ 5) (K : CK code Fs fu ((m, d, vs, JK ++ I') :: G) sh T out n) (P : PL code Fs m vs (JK ++ I') g) (hlC : (cStk ((m, d, vs, J ++ I') :: G)).length ≤ 20000) (h20 : ¬ (inA code m).1 = 20) (hJ : ∀ y ∈ J, ¬ y.1 = 3) (hjn : (cIt J).length = jn) (hT1 : okTy fu T1 ∧ T.1 ≤ T1.1 ∧ T1.2 = T.2)
    (hly : lyo (code.take (m + 1)) = some (0 :: kd I')) (hpl : plI I') (hok : okIs code g.2.2.2.2.1 g.2.2.2.2.2 I')
    (C1 : CX t0 t1 p code Fs fu S0 u w ((m, d, vs, J ++ I') :: G) sh T1 out) (C2 : u ≤ 100000 + 20 * T.2.1) (hF : cF t1 t2 u v ans) (hpc : kI t1 49 17 = Int32.ofNat (posC code (m + 1)))
    (hround : ∀ t3, cf_144 N X v (Int32.ofNat jn) pl t2 = some (t3, .inl none) → ∀ Q, cf_141_L4 N X (Q + k0) 0 (Int32.ofNat n) t = cf_141_L4 N X Q 0 (Int32.ofNat (n + k0)) t3)
    (B : RB s0 s1 h code Fs fu T1 out) (M : RM0 s1 f h code ((m, d', vs, I') :: G) sh) (R2 : 154242 ≤ f ∧ f ≤ 154250 + T.2.1) (h70 : s1.1 70 = pl) (h69 : s1.1 69 = Int32.ofNat (ob0 h + posR code (m + 1)))
    (hE : rE s1 s2 (rStk ((m, d', vs, I') :: G)).length f T1.2.1 ans) (hans : ∀ kq, ans = .inl kq → 1 ≤ kq ∧ kq < 9)
    (hsok : s2.1 66 = Int32.ofNat 0 → ∀ Q x2, mf_68_L10 N (Q + 1) 0 x2 s = mf_68_L10 N Q 0 x2 s2) (hsno : ∀ kq, s2.1 66 = Int32.ofNat kq → 0 < kq ∧ kq < 100 → ∀ Q x2, mf_68_L10 N (Q + (0 + 1)) 0 x2 s = mo_bi (mf_312 N s2) (fun s3 y => mf_68_L10 N Q 0 x2 s3))
    (hpot : ∀ x, ans = .inr x → k0 + 20 * T.1 + pvI (JK ++ I') ≤ crL JK + 20 * T1.1 + 60 * ctV (vw x) + 1 + pvI I') (hol : out.length ≤ 200000000) : GO N X t0 s0 p h code Fs fu S0 t s n := by
  obtain ⟨b1, b2, b3, b4, b5, b6⟩ := K.bd
  obtain ⟨hT1a, hT1b, hT1c⟩ := hT1
  have hmd : T1.2.1 = T.2.1 := by rw [hT1c]
  obtain ⟨u', w', CO, co17, co1, co2, co3⟩ := C1.op hF
  obtain ⟨f', g1, g2, g3, g4⟩ := hE
  have h66s : s1.1 66 = Int32.ofNat 0 := B.2.2.1.1
  have h67s : s1.1 67 = -Int32.ofNat 1 := B.2.2.1.2
  have hpb := P.2.1
  have hnx := P.2.2.2.2.2.1 h20
  cases ans with
  | inl kq =>
    obtain ⟨hk1, hk2⟩ := hans kq rfl
    obtain ⟨o1, o2⟩ := co3
    obtain ⟨i1, i2, i3, i4⟩ := g4
    have RK := B.vf g3 R2.1 i2
    rw [i3, i4, h70] at RK
    have hT1' : (T1.1, T1.2.1, T1.2.2) = T1 := rfl
    rw [hT1'] at RK
    have M2 := M.vf (m' := m) (d' := d') g3 rfl g1 g2
    refine trob (k := kq) (k0 := k0) (j0 := 0) (r := Int32.ofNat 0) (by omega) (by omega) hk0 (by omega) (CO.cy.low (m' := m) (d' := d') hJ) (by rw [hmd]; omega) RK M2 ⟨by omega, by rw [hmd]; omega⟩ (by intro q; cases q) ?_ (K.kt (J := JK) (I' := I') rfl hT1a ⟨hT1b, by rw [hmd]; exact Nat.le_refl _⟩ (by omega)) (fun t3 ht => hround t3 ?_) (hsno kq i3 (by omega)) (by omega)
    · rw [if_neg (by omega)]
      rfl
    · rw [o1]
      exact c_giveT (by omega) ht
  | inr x =>
    obtain ⟨o1, o2, o3, o4⟩ := co3
    obtain ⟨i1, i2, i3, i4, i5⟩ := g4
    by_cases c : T1.2.1 + ctV (vw x) ≤ 3000
    · rw [if_pos c] at i5
      obtain ⟨t3, v1, v2, v3⟩ := CO.give (N := N) (X := X) (m' := m + 1) (d' := 0) (q := pl) hlC hJ hjn o1 o3 c
      have RK := B.vf g3 R2.1 i4
      rw [i5.1, i5.2, h66s, h67s] at RK
      have M2 := M.vf (m' := m + 1) (d' := 0) g3 rfl g1 g2
      have eR : rStk ((m + 1, 0, vs, (0, [x], 0) :: I') :: G) = x :: rStk ((m, d', vs, I') :: G) := rStk_cons (m' := m) (d' := d')
      have M3 : RM0 s2 f' h code ((m + 1, 0, vs, (0, [x], 0) :: I') :: G) sh := by
        refine RM0.mv M2 (fun _ _ => rfl) rfl rfl (Nat.le_refl _) (fun _ _ => rfl) g2 ?_ rfl (wStk_cons (by show ¬ ((0 : Nat) = 2 ∨ (0 : Nat) = 3 ∨ (0 : Nat) = 6 ∨ (0 : Nat) = 8); decide))
        rw [eR]
        exact ⟨i3, M2.1⟩
      refine goOn (k := k0) (j := 1) (by omega) (hround t3 v1) (hsok (i5.1.trans h66s)) v2 ?_ ?_ ⟨RK, M3, by rw [eR]; exact i2⟩ ⟨by omega, ?_⟩ ?_ (K.to P (by omega) (I' := (0, [x], 0) :: I') hly ?_ ⟨okV, hok⟩ rfl ?_ K.2.2.2.2.1 ⟨hT1a.1, hT1a.2.1, c, hT1a.2.2.2.1, ?_⟩ ?_ ?_)
      · show u' ≤ 100000 + 20 * (T1.2.1 + ctV (vw x))
        rw [hmd, Nat.mul_add, ← Nat.add_assoc]
        exact Nat.le_trans o2 (Nat.add_le_add_right C2 _)
      · rw [v3, co17, hpc]
        rfl
      · show f' ≤ 154250 + (T1.2.1 + ctV (vw x))
        rw [hmd, ← Nat.add_assoc]
        exact Nat.le_trans i1 (Nat.add_le_add_right R2.2 _)
      · rw [g3.1.1 69 (by unfold vfI; omega), h69]
        rfl
      · intro y hy
        rcases List.mem_cons.mp hy with e | e
        · rw [e]; exact Nat.zero_le _
        · exact hpl y e
      · rw [cStk_cons (m' := m) (d' := d)]
        refine gd_c (fun y q => by cases q; exact ⟨o3, o4⟩) (gd_suf (J := JK) K.2.2.2.1)
      · show 300 * T1.2.2.2 ≤ T1.2.1 + ctV (vw x)
        have := hT1a.2.2.2.2
        omega
      · have := hpot x rfl
        have e1 : pvI ((0, [x], 0) :: I') = 1 + pvI I' := rfl
        rw [crL_c, crL_app, e1]
        show k0 + (0 + crL I') + 20 * T.1 + 60 * T.2.1 + pvI (JK ++ I') ≤ crL JK + crL I' + 20 * T1.1 + 60 * (T1.2.1 + ctV (vw x)) + (1 + pvI I')
        rw [hmd]
        omega
      · rw [n5I_c, n5I_app]
        show out.length + 9100 * (0 + n5I I') + 9100 * T.1 ≤ out.length + 9100 * (n5I JK + n5I I') + 9100 * T1.1
        omega
    · rw [if_neg c] at i5
      have RK := B.vf g3 R2.1 i4
      rw [i5.1, i5.2, h70] at RK
      refine end11 (k0 := k0) ((CO.md (c := T1.2.1 + ctV (vw x))).cy) RK (by omega) (fun t3 ht => hround t3 ?_) (hsno 11 i5.1 (by omega)) (by omega) hol
      exact c_giveM CO.2.2.1 o1 o3 CO.1.2.1.2.2.1 hT1a.2.2.1 c ht
end VOP
