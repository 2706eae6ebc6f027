/-! ===== PURE: load (7): the call of load ===== -/
section LOB
variable {N : Nat} {X : Nat → Option zz_C} {t t' t1 t2 : cS} {s s' s1 s2 : mS} {p p' e : Nat} {a : Int32}
theorem i32_get (h : ¬ a < Int32.ofNat 0) : ∃ n : Nat, n < 2147483648 ∧ a = Int32.ofNat n := i32of h
/-- what both do with a fault, or with none -/
theorem p_load (hN : 170000 ≤ N) (hX : oX N X) (hY : oY X) (hZ : oZ X) (hA : iA t s) (hL : LI t s p p' e) (hG : PGI t s p e) (hF : iF t s) (hrm : rmG t) : ∃ t' s' v p1 p1' e1, cf_3 N X a t = some (t', .inl (some (.int v))) ∧ mf_59 N a s = some (s', some (.int v)) ∧ iA t' s' ∧ iF t' s' ∧ LI t' s' p1 p1' e1 ∧ PGI t' s' p1 e1 ∧ gW t t' ∧ fW2 s s' ∧ (s'.1 13 = 1 ∨ (s'.1 13 = s.1 13 ∧ s'.1 14 = s.1 14)) := by
  obtain ⟨m, L, hB, hmL, hm20, hLL⟩ := hA
  have hL16 : L ≤ 1620 := by omega
  have k01 : kI t 0 1 = Int32.ofNat m := hB.1
  have s3 : s.1 3 = Int32.ofNat m := hB.2.1
  by_cases a0 : a < Int32.ofNat 0
  · refine ⟨t, s, -2, p, p', e, ?_, ?_, ⟨m, L, hB, hmL, hm20, hLL⟩, hF, hL, hG, gW.rf, fW2.rf, Or.inr ⟨rfl, rfl⟩⟩
    · unfold cf_3 cf_3_0 cf_3_12
      rw [l32_0, if_pos a0]
    · unfold mf_59 mf_59_0 mf_59_12
      rw [l32_0, if_pos a0]
  · obtain ⟨n, hn31, rfl⟩ := i32_get a0
    by_cases nm : n ≤ m
    · -- the text is taken
      have hc1 : cf_3 N X (Int32.ofNat n) t = cf_3_15 N X (Int32.ofNat n) t := by
        unfold cf_3 cf_3_0 cf_3_4
        simp (disch := omega) only [ev_S, ev_C, ↓reduceIte, Nat.reduceEqDiff, Nat.reduceLeDiff, Nat.reduceAdd, Nat.reduceMul, Nat.reduceSub, reduceCtorEq, l32_0, l32_1, l32_2, l32_3, l32_4, l32_5, l32_6, l32_7, l32_8, l32_9, l32_10, l32_11, l32_12, l32_13, l32_14, l32_15, l32_16, l32_17, l32_18, l32_19, l32_20, l32_21, l32_22, l32_23, l32_24, l32_25, l32_26, l32_27, l32_28, l32_29, l32_33, l32_40, l32_41, l32_44, l32_45, l32_59, l32_61, l32_91, l32_93, l32_123, l32_125, k01, nm]
      have hm1 : mf_59 N (Int32.ofNat n) s = mf_59_15 N (Int32.ofNat n) s := by
        unfold mf_59 mf_59_0 mf_59_4
        simp (disch := omega) only [ev_S, ev_P, ↓reduceIte, Nat.reduceEqDiff, Nat.reduceLeDiff, Nat.reduceAdd, Nat.reduceMul, Nat.reduceSub, reduceCtorEq, l32_0, l32_1, l32_2, l32_3, l32_4, l32_5, l32_6, l32_7, l32_8, l32_9, l32_10, l32_11, l32_12, l32_13, l32_14, l32_15, l32_16, l32_17, l32_18, l32_19, l32_20, l32_21, l32_22, l32_23, l32_24, l32_25, l32_26, l32_27, l32_28, l32_29, l32_33, l32_40, l32_41, l32_44, l32_45, l32_59, l32_61, l32_91, l32_93, l32_123, l32_125, s3, nm]
      rw [hc1, hm1]
      obtain ⟨l1, l2, l3, l4, l5, l6, l7, l8, l9, l10⟩ := hL
      have hpp : p = 12 ∨ p = 21 := by rcases l3 with z | z <;> omega
      have hpp' : p' = 12 ∨ p' = 21 := by rcases l3 with z | z <;> omega
      obtain ⟨s1, hs1⟩ : ∃ s1, s1 = mI (mI (mI (mI (mI (mI (mI (mI s 3 (Int32.ofNat 0)) 4 (Int32.ofNat n)) 9 (Int32.ofNat 0)) 10 (-Int32.ofNat 1)) 11 (Int32.ofNat 0)) 15 (Int32.ofNat 0)) 28 (Int32.ofNat 0)) 29 (Int32.ofNat 0) := ⟨_, rfl⟩
      have fs1 : ∀ q, ¬ (q = 3 ∨ q = 4 ∨ q = 9 ∨ q = 10 ∨ q = 11 ∨ q = 15 ∨ q = 28 ∨ q = 29) → s1.1 q = s.1 q := fun q r => by
        rw [hs1]
        show (if q = 29 then _ else if q = 28 then _ else if q = 15 then _ else if q = 11 then _ else if q = 10 then _ else if q = 9 then _ else if q = 4 then _ else if q = 3 then _ else s.1 q) = _
        rw [if_neg (by omega), if_neg (by omega), if_neg (by omega), if_neg (by omega), if_neg (by omega), if_neg (by omega), if_neg (by omega), if_neg (by omega)]
      have v3 : s1.1 3 = Int32.ofNat 0 := by rw [hs1]; rfl
      have v4 : s1.1 4 = Int32.ofNat n := by rw [hs1]; rfl
      have v9 : s1.1 9 = Int32.ofNat 0 := by rw [hs1]; rfl
      have v10 : s1.1 10 = -Int32.ofNat 1 := by rw [hs1]; rfl
      have v11 : s1.1 11 = Int32.ofNat 0 := by rw [hs1]; rfl
      have v15 : s1.1 15 = Int32.ofNat 0 := by rw [hs1]; rfl
      have v28 : s1.1 28 = Int32.ofNat 0 := by rw [hs1]; rfl
      have v29 : s1.1 29 = Int32.ofNat 0 := by rw [hs1]; rfl
      have vr : s1.2 = s.2 := by rw [hs1]; rfl
      have W1 : fW2 s s1 := ⟨fun q r => fs1 q (by omega), fun q _ => by rw [vr], fun q _ => by rw [vr], fun q _ => by rw [vr]⟩
      have g1 : ∀ k f, ¬ (k = 0 ∧ f = 1) → kI (jI t 0 1 (Int32.ofNat 0)) k f = kI t k f := fun k f r => if_neg r
      -- the tape behind
      have tape : ∀ (t2 : cS) (s2 : mS), kI t2 0 1 = Int32.ofNat 0 → s2.1 3 = Int32.ofNat 0 → kA t2 1 = kA t 1 → iA t2 s2 := fun t2 s2 z1 z2 z3 => ⟨0, L, ⟨z1, z2, by rw [z3]; exact hB.2.2.1, fun i hi => absurd hi (Nat.not_lt_zero _), by rw [z3]; exact hB.2.2.2.2⟩, Nat.zero_le _, rfl, hLL⟩
      -- the program that stands, where nothing of it has changed
      have keepP : ∀ (t2 : cS) (s2 : mS), gX (eLd p') (aLd p') (jI t 0 1 (Int32.ofNat 0)) t2 → fJ e s1 s2 → ∀ t3 s3, (∀ k f, ¬ (k = 0) → kI t3 k f = kI t2 k f) → kP t3 = kP t2 → kA t3 = kA t2 → kB t3 = kB t2 → (∀ q, ¬ (q = 45 ∨ q = 46) → s3.1 q = s2.1 q) → s3.2 = s2.2 → PGI t3 s3 p e := fun t2 s2 gx fj t3 s3 w1 w2 w3 w4 w5 w6 => by
        refine hG.kp ?_ (fun f => ?_) (fun j j1 j2 => ?_) ?_ ?_ (fun q y r1 r2 r3 => ?_) (fun q y r1 r2 r3 => ?_)
        · rw [w2, gx.2.1 0 3 (fun z => by omega)]
          rfl
        · rw [w1 p f (by rcases hpp with y | y <;> omega), gx.1 p f (fun z => by rcases l3 with y | y <;> obtain ⟨y1, y2⟩ := y <;> subst y1 y2 <;> omega)]
          exact g1 p f (by rcases hpp with y | y <;> omega)
        · have := gx.2.2.1 (p + j) (fun z => by rcases l3 with y | y <;> obtain ⟨y1, y2⟩ := y <;> subst y1 y2 <;> omega) (by rcases hpp with y | y <;> omega)
          rw [w3, w4]
          exact ⟨this.1, this.2.1⟩
        · rw [w5 12 (by omega), fj.1 12 (by omega), fs1 12 (by omega)]
        · rw [w5 14 (by omega), fj.1 14 (by omega), fs1 14 (by omega)]
        · rw [w6, fj.2.2.2.2.1 q y r1 (by unfold ob0 at *; omega), vr]
        · rw [w6, fj.2.2.2.2.2.1 q y r1 (by unfold fb0 at *; omega), vr]
      by_cases n16 : n ≤ 1600
      · -- compiled
        obtain ⟨b, hT, hx⟩ := hB.text (t' := jI t 0 1 (Int32.ofNat 0)) (s' := s1) nm n16 ⟨hmL, hL16⟩ v4 (by rw [vr]) ⟨rfl, rfl⟩
        have hz' : SZf p' (jI t 0 1 (Int32.ofNat 0)) := by rcases hpp' with z | z <;> subst z <;> assumption
        have hK1 : Kd s1 := Kd.kp (fs1 44 (by omega)) (fun q _ => by rw [vr]) (by rw [vr]) l8
        have hW1 : rWd s1 := fun w hw => by rw [vr]; exact l6 w hw
        have hN1 : rWn s1 := fun w hw => by rw [vr]; exact l7 w hw
        have hP4 : kP (jI t 0 1 (Int32.ofNat 0)) 0 4 = some p' := l2
        have hcC : cf_3_15 N X (Int32.ofNat n) t = co_b (kP (jI t 0 1 (Int32.ofNat 0)) 0 4) (fun w0 => ko_call 1005 (cf_35 N X (kD (jI t 0 1 (Int32.ofNat 0)) 1) (Int32.ofNat n) w0 (jI t 0 1 (Int32.ofNat 0))) (fun g1 v1 => co_v v1 (cf_3_57 N X g1))) := by
          have q : (Int32.ofNat n ≤ Int32.ofNat 1600) = True := eq_true ((i32le hn31 (by decide)).mpr n16)
          unfold cf_3_15 cf_3_41
          rw [l32_1600, if_pos (by rw [q]; trivial)]
          rfl
        have hmC : mf_59_15 N (Int32.ofNat n) s = mf_59_73 N s1 := by
          have q : (Int32.ofNat n ≤ Int32.ofNat 1600) = True := eq_true ((i32le hn31 (by decide)).mpr n16)
          unfold mf_59_15
          rw [l32_1600, if_pos (by rw [q]; trivial), hs1]
          rfl
        rw [hcC, hmC, hP4]
        have eb : ∀ g : Nat → kO, co_b (some p') g = g p' := fun g => rfl
        rw [eb]
        have lieq : ∀ t2 : cS, (∀ k, ¬ aLd p' k → k ≠ 111 → kA t2 k = kA t k ∧ kB t2 k = kB t k) → SZf p' t2 → SZf 12 t2 ∧ SZf 21 t2 := fun t2 w hz => by
          have oth : SZf p t2 := by
            have hzp : SZf p t := by rcases hpp with z | z <;> subst z <;> assumption
            have e1 : ∀ j, 1 ≤ j → j ≤ 8 → kA t2 (p + j) = kA t (p + j) ∧ kB t2 (p + j) = kB t (p + j) := fun j j1 j2 => w (p + j) (fun z => by rcases l3 with y | y <;> obtain ⟨y1, y2⟩ := y <;> subst y1 y2 <;> omega) (by rcases hpp with y | y <;> omega)
            obtain ⟨⟨q1, q2, q3, q4⟩, q5⟩ := hz
            obtain ⟨⟨r1, r2, r3, r4⟩, r5⟩ := hzp
            refine ⟨⟨q1, q2, ?_, q4⟩, ?_⟩
            · rw [(e1 1 (by omega) (by omega)).1, (e1 2 (by omega) (by omega)).1, (e1 3 (by omega) (by omega)).1]
              exact r3
            · rw [(e1 4 (by omega) (by omega)).2, (e1 5 (by omega) (by omega)).1, (e1 6 (by omega) (by omega)).1, (e1 7 (by omega) (by omega)).1, (e1 8 (by omega) (by omega)).1]
              exact r5
          rcases l3 with ⟨y1, y2⟩ | ⟨y1, y2⟩ <;> subst y1 y2
          · exact ⟨oth, hz⟩
          · exact ⟨hz, oth⟩
        rcases p_comp (N := N) (X := X) (p := p') (e := e) hN hX hY hZ hT hz' hrm hpp' hx (by rw [fs1 12 (by omega)]; exact l9) l10 v9 v10 v11 v15 v28 v29 hW1 hN1 hK1 with ⟨t2, s2, code, cl, Fs, c1, c2, c3, c4, c5, c6, c7, c8, c9, c10⟩ | ⟨t2, s2, c1, c2, c3, c4, c5, c6⟩
        · have c1 : cf_35 N X (kD (jI t 0 1 (Int32.ofNat 0)) 1) (Int32.ofNat n) p' (jI t 0 1 (Int32.ofNat 0)) = some (t2, .inl none) := c1
          rw [c1, c2]
          obtain ⟨pg1, pg2, pg3, pg4, pg5⟩ := c3.pg c4
          have k4 : kI t2 p' 4 = Int32.ofNat Fs.length := pg2.1
          have q12 : s2.1 12 = Int32.ofNat e := by rw [c9.1 12 (by omega), fs1 12 (by omega)]; exact l9
          have q15 : s2.1 15 = Int32.ofNat Fs.length := c3.2.2.2.2.2.2.1.1
          have kP3 : kP t2 0 3 = some p := by rw [c8.2.1 0 3 (fun z => by omega)]; exact l1
          have kP4 : kP t2 0 4 = some p' := by rw [c8.2.1 0 4 (fun z => by omega)]; exact l2
          have hp' : (p' = 12 ∨ p' = 21) = True := eq_true hpp'
          have n0 : ¬ p' = 0 := by rcases hpp' with y | y <;> omega
          obtain ⟨t3, ht3⟩ : ∃ t3, t3 = jP (jP (jI (jI t2 0 5 (Int32.ofNat 0)) 0 6 (-Int32.ofNat 1)) 0 3 (some p')) 0 4 (some p) := ⟨_, rfl⟩
          have hc3 : ko_call 1005 (some (t2, .inl none)) (fun g1 v1 => co_v v1 (cf_3_57 N X g1)) = some (t3, .inl (some (.int (Int32.ofNat Fs.length)))) := by
            show cf_3_57 N X t2 = _
            have e36 : cf_36 N X t2 = some (t2, .inl (some (.int (Int32.ofNat 0)))) := by
              unfold cf_36 cf_36_0
              rw [c5]
            have e37 : cf_37 N X (jI t2 0 5 (Int32.ofNat 0)) = some (jI t2 0 5 (Int32.ofNat 0), .inl (some (.int (-Int32.ofNat 1)))) := by
              unfold cf_37 cf_37_0
              show some (jI t2 0 5 (Int32.ofNat 0), (Sum.inl (some (Value.int (kI t2 2 11))) : Option Value ⊕ Unit)) = _
              rw [c6]
            have e32 : cf_32 N X p' t3 = some (t3, .inl (some (.int (Int32.ofNat Fs.length)))) := by
              unfold cf_32 cf_32_0
              rw [if_pos hpp', ht3]
              show some (_, (Sum.inl (some (Value.int (if p' = 0 ∧ 4 = 6 then _ else if p' = 0 ∧ 4 = 5 then _ else kI t2 p' 4))) : Option Value ⊕ Unit)) = _
              rw [if_neg (by omega), if_neg (by omega), k4]
            unfold cf_3_57
            rw [e36]
            show cf_3_65 N X (Int32.ofNat 0) t2 = _
            unfold cf_3_65
            rw [e37]
            show cf_3_76 N X (-Int32.ofNat 1) (jI t2 0 5 (Int32.ofNat 0)) = _
            unfold cf_3_76
            rw [if_pos (show kI (jI t2 0 5 (Int32.ofNat 0)) 0 5 = 0 from rfl)]
            unfold cf_3_88
            have z3 : kP (jI (jI t2 0 5 (Int32.ofNat 0)) 0 6 (-Int32.ofNat 1)) 0 3 = some p := kP3
            have z4 : kP (jI (jI t2 0 5 (Int32.ofNat 0)) 0 6 (-Int32.ofNat 1)) 0 4 = some p' := kP4
            rw [z3, z4]
            show (if p' = 12 ∨ p' = 21 then _ else none) = _
            rw [if_pos hpp', ← ht3, e32]
            rfl
          obtain ⟨s3', hs3⟩ : ∃ s3, s3 = mI (mI (mI (mI (mI s2 45 (Int32.ofNat 0)) 46 (-Int32.ofNat 1)) 12 (Int32.ofNat (1 - e))) 14 (Int32.ofNat Fs.length)) 13 1 := ⟨_, rfl⟩
          have hm3 : mf_59_93 N s2 = some (s3', some (.int (Int32.ofNat Fs.length))) := by
            have e9 : Int32.ofNat 1 - Int32.ofNat e = Int32.ofNat (1 - e) := ev_sub l10
            rw [hs3]
            unfold mf_59_93 mf_59_109 mf_59_117 mf_59_129
            simp (disch := omega) only [ev_S, ev_P, ↓reduceIte, Nat.reduceEqDiff, Nat.reduceLeDiff, Nat.reduceAdd, Nat.reduceMul, Nat.reduceSub, reduceCtorEq, l32_0, l32_1, l32_2, l32_3, l32_4, l32_5, l32_6, l32_7, l32_8, l32_9, l32_10, l32_11, l32_12, l32_13, l32_14, l32_15, l32_16, l32_17, l32_18, l32_19, l32_20, l32_21, l32_22, l32_23, l32_24, l32_25, l32_26, l32_27, l32_28, l32_29, l32_33, l32_40, l32_41, l32_44, l32_45, l32_59, l32_61, l32_91, l32_93, l32_123, l32_125, c7, q12, q15, e9]
          have fs3 : ∀ q, ¬ (q = 12 ∨ q = 13 ∨ q = 14 ∨ q = 45 ∨ q = 46) → s3'.1 q = s2.1 q := fun q r => by
            rw [hs3]
            show (if q = 13 then _ else if q = 14 then _ else if q = 12 then _ else if q = 46 then _ else if q = 45 then _ else s2.1 q) = _
            rw [if_neg (by omega), if_neg (by omega), if_neg (by omega), if_neg (by omega), if_neg (by omega)]
          have w12 : s3'.1 12 = Int32.ofNat (1 - e) := by rw [hs3]; rfl
          have w14 : s3'.1 14 = Int32.ofNat Fs.length := by rw [hs3]; rfl
          have w45 : s3'.1 45 = Int32.ofNat 0 := by rw [hs3]; rfl
          have w46 : s3'.1 46 = -Int32.ofNat 1 := by rw [hs3]; rfl
          have wr : s3'.2 = s2.2 := by rw [hs3]; rfl
          have kI3 : ∀ k f, ¬ (k = 0 ∧ (f = 5 ∨ f = 6)) → kI t3 k f = kI t2 k f := fun k f r => by
            rw [ht3]
            show (if k = 0 ∧ f = 6 then _ else if k = 0 ∧ f = 5 then _ else kI t2 k f) = _
            rw [if_neg (by omega), if_neg (by omega)]
          have kA3 : kA t3 = kA t2 := by rw [ht3]; rfl
          have kB3 : kB t3 = kB t2 := by rw [ht3]; rfl
          have kAt : ∀ k, ¬ aLd p' k → k ≠ 111 → kA t3 k = kA t k ∧ kB t3 k = kB t k := fun k r1 r2 => by
            have := c8.2.2.1 k r1 r2
            rw [kA3, kB3]
            exact ⟨this.1, this.2.1⟩
          have szz : SZf p' t3 := by
            have := c10
            unfold SZf SZ at this ⊢
            rw [kA3, kB3]
            exact this
          obtain ⟨sz1, sz2⟩ := lieq t3 kAt szz
          have hrest : ∀ q, s3'.2.2.1 q = s2.2.2.1 q := fun q => by rw [wr]
          have e11 : 1 - (1 - e) = e := by omega
          refine ⟨t3, s3', Int32.ofNat Fs.length, p', p, 1 - e, hc3, hm3, tape t3 s3' ?_ ?_ ?_, ⟨?_, ?_⟩, ⟨by rw [ht3]; rfl, by rw [ht3]; rfl, by omega, sz1, sz2, fun w hw => ?_, fun w hw => ?_, ?_, w12, by omega⟩, ⟨code, Fs, ⟨by rw [ht3]; rfl, hpp', w12, by omega, w14⟩, ?_, ?_, ?_, ?_, pg5⟩, ?_, ?_, Or.inl (by rw [hs3]; rfl)⟩
          · rw [kI3 0 1 (by omega), c8.1 0 1 (fun z => by rcases hpp' with y | y <;> subst y <;> omega)]
            rfl
          · rw [fs3 3 (by omega), c9.1 3 (by omega)]
            exact v3
          · exact (kAt 1 (by rcases hpp' with y | y <;> subst y <;> omega) (by decide)).1
          · rw [w45, ht3]
            rfl
          · rw [w46, ht3]
            rfl
          · rw [wr, c9.2.2.2.1 0 (by omega)]
            exact hW1 w hw
          · rw [wr, c9.2.2.1 1 (by omega)]
            exact hN1 w hw
          · exact Kd.kp (fs3 44 (by omega)) (fun q _ => hrest q) (by rw [wr]) (c9.2.2.2.2.2.2 hK1)
          · unfold cPg at pg1 ⊢
            rw [kA3, kI3 p' 3 (by rcases hpp' with y | y <;> omega)]
            exact pg1
          · obtain ⟨r1, r2⟩ := pg2
            refine ⟨by rw [kI3 p' 4 (by rcases hpp' with y | y <;> omega)]; exact r1, ?_⟩
            rw [kA3, kB3]
            exact r2
          · rw [e11]
            unfold rPg at pg3 ⊢
            rw [hrest 23, hrest 24, hrest 25, hrest 26, hrest 27]
            exact pg3
          · rw [e11]
            unfold rFp at pg4 ⊢
            rw [hrest 17, hrest 18, hrest 19, hrest 20]
            exact pg4
          · obtain ⟨u1, u2, u3, u4, u5, u6, u7, u8⟩ := (gL.toX c8).W hpp'
            refine ⟨fun k f r => ?_, fun k f r => ?_, fun k r1 r2 => ?_, ?_, ?_, ?_, ?_, ?_⟩
            · rw [kI3 k f (by omega), u1 k f (by omega)]
              exact g1 k f (by omega)
            · rw [ht3]
              show (if k = 0 ∧ f = 4 then _ else if k = 0 ∧ f = 3 then _ else kP t2 k f) = _
              rw [if_neg (by omega), if_neg (by omega)]
              exact u2 k f (by omega)
            · have := u3 k r1 r2
              rw [kA3, kB3]
              exact ⟨this.1, this.2.1, by rw [ht3]; exact this.2.2⟩
            · rw [ht3]; exact u4
            · rw [ht3]; exact u5
            · rw [ht3]; exact u6
            · rw [ht3]; exact u7
            · rw [ht3]; exact u8
          · exact (W1.tr (fJ.W c9)).tr ⟨fun q r => fs3 q (by omega), fun q _ => by rw [wr], fun q _ => hrest q, fun q _ => by rw [wr]⟩
        · have c1 : cf_35 N X (kD (jI t 0 1 (Int32.ofNat 0)) 1) (Int32.ofNat n) p' (jI t 0 1 (Int32.ofNat 0)) = some (t2, .inl none) := c1
          rw [c1, c2]
          obtain ⟨x, y, x1, x2, x3, x4, x5, x6, x7⟩ := c3
          have x0 : ¬ x = 0 := by omega
          have x00 : ¬ x ≤ 0 := by omega
          have hc3 : ko_call 1005 (some (t2, .inl none)) (fun g1 v1 => co_v v1 (cf_3_57 N X g1)) = some (jI (jI t2 0 5 (Int32.ofNat x)) 0 6 (Int32.ofNat y), .inl (some (.int (-1)))) := by
            show cf_3_57 N X t2 = _
            have e36 : cf_36 N X t2 = some (t2, .inl (some (.int (Int32.ofNat x)))) := by
              unfold cf_36 cf_36_0
              rw [x4]
            have e37 : cf_37 N X (jI t2 0 5 (Int32.ofNat x)) = some (jI t2 0 5 (Int32.ofNat x), .inl (some (.int (Int32.ofNat y)))) := by
              unfold cf_37 cf_37_0
              show some (jI t2 0 5 (Int32.ofNat x), (Sum.inl (some (Value.int (kI t2 2 11))) : Option Value ⊕ Unit)) = _
              rw [x5]
            unfold cf_3_57
            rw [e36]
            show cf_3_65 N X (Int32.ofNat x) t2 = _
            unfold cf_3_65
            rw [e37]
            show cf_3_76 N X (Int32.ofNat y) (jI t2 0 5 (Int32.ofNat x)) = _
            unfold cf_3_76
            rw [if_neg (show ¬ kI (jI t2 0 5 (Int32.ofNat x)) 0 5 = 0 from fun q => x0 (ofNat_inj (b := 0) (by omega) (by omega) q))]
            rfl
          have hm3 : mf_59_93 N s2 = some (mI (mI s2 45 (Int32.ofNat x)) 46 (Int32.ofNat y), some (.int (-1))) := by
            have nm1 : (-1 : Int32) = -Int32.ofNat 1 := rfl
            unfold mf_59_93 mf_59_113 mf_59_117 mf_59_127
            simp (disch := omega) only [ev_S, ev_P, ↓reduceIte, Nat.reduceEqDiff, Nat.reduceLeDiff, Nat.reduceAdd, Nat.reduceMul, Nat.reduceSub, reduceCtorEq, l32_0, l32_1, l32_2, l32_3, l32_4, l32_5, l32_6, l32_7, l32_8, l32_9, l32_10, l32_11, l32_12, l32_13, l32_14, l32_15, l32_16, l32_17, l32_18, l32_19, l32_20, l32_21, l32_22, l32_23, l32_24, l32_25, l32_26, l32_27, l32_28, l32_29, l32_33, l32_40, l32_41, l32_44, l32_45, l32_59, l32_61, l32_91, l32_93, l32_123, l32_125, x6, x7, x0, x00, nm1]
          have kAt : ∀ k, ¬ aLd p' k → k ≠ 111 → kA t2 k = kA t k ∧ kB t2 k = kB t k := fun k r1 r2 => by
            have := c4.2.2.1 k r1 r2
            exact ⟨this.1, this.2.1⟩
          obtain ⟨sz1, sz2⟩ := lieq t2 kAt c6
          have kI3 : ∀ k f, ¬ (k = 0 ∧ (f = 5 ∨ f = 6)) → kI (jI (jI t2 0 5 (Int32.ofNat x)) 0 6 (Int32.ofNat y)) k f = kI t2 k f := fun k f r => by
            show (if k = 0 ∧ f = 6 then _ else if k = 0 ∧ f = 5 then _ else kI t2 k f) = _
            rw [if_neg (by omega), if_neg (by omega)]
          have fs3 : ∀ q, ¬ (q = 45 ∨ q = 46) → (mI (mI s2 45 (Int32.ofNat x)) 46 (Int32.ofNat y)).1 q = s2.1 q := fun q r => by
            show (if q = 46 then _ else if q = 45 then _ else s2.1 q) = _
            rw [if_neg (by omega), if_neg (by omega)]
          refine ⟨jI (jI t2 0 5 (Int32.ofNat x)) 0 6 (Int32.ofNat y), mI (mI s2 45 (Int32.ofNat x)) 46 (Int32.ofNat y), -1, p, p', e, hc3, hm3, tape _ _ ?_ ?_ ?_, ⟨rfl, rfl⟩, ⟨?_, ?_, l3, sz1, sz2, fun w hw => ?_, fun w hw => ?_, ?_, ?_, l10⟩, keepP t2 s2 c4 c5 _ _ (fun k f r => kI3 k f (by omega)) rfl rfl rfl fs3 rfl, ?_, ?_, Or.inr ⟨by rw [fs3 13 (by omega), c5.1 13 (by omega), fs1 13 (by omega)], by rw [fs3 14 (by omega), c5.1 14 (by omega), fs1 14 (by omega)]⟩⟩
          · rw [kI3 0 1 (by omega), c4.1 0 1 (fun z => by rcases hpp' with y | y <;> subst y <;> omega)]
            rfl
          · rw [fs3 3 (by omega), c5.1 3 (by omega)]
            exact v3
          · exact (kAt 1 (by rcases hpp' with y | y <;> subst y <;> omega) (by decide)).1
          · show kP t2 0 3 = _
            rw [c4.2.1 0 3 (fun z => by omega)]
            exact l1
          · show kP t2 0 4 = _
            rw [c4.2.1 0 4 (fun z => by omega)]
            exact l2
          · show s2.2.2.2 0 w = _
            rw [c5.2.2.2.1 0 (by omega)]
            exact hW1 w hw
          · show s2.2.2.1 1 w = _
            rw [c5.2.2.1 1 (by omega)]
            exact hN1 w hw
          · exact Kd.kp (fs3 44 (by omega)) (fun q _ => rfl) rfl (c5.2.2.2.2.2.2 hK1)
          · rw [fs3 12 (by omega), c5.1 12 (by omega), fs1 12 (by omega)]
            exact l9
          · obtain ⟨u1, u2, u3, u4, u5, u6, u7, u8⟩ := c4.W hpp'
            refine ⟨fun k f r => ?_, fun k f r => u2 k f r, fun k r1 r2 => u3 k r1 r2, u4, u5, u6, u7, u8⟩
            rw [kI3 k f (by omega), u1 k f (by omega)]
            exact g1 k f (by omega)
          · exact (W1.tr (fJ.W c5)).tr ⟨fun q r => fs3 q (by omega), fun q _ => rfl, fun q _ => rfl, fun q _ => rfl⟩
      · -- too long
        have q : (Int32.ofNat n ≤ Int32.ofNat 1600) = False := eq_false (fun q => n16 ((i32le hn31 (by decide)).mp q))
        have hb : mf_261 N (Int32.ofNat 1) (Int32.ofNat 1600) s1 = some (flt s1 (Int32.ofNat 1) (Int32.ofNat 1600), none) := r_breaks v9
        have hc3 : cf_3_15 N X (Int32.ofNat n) t = some (jI (jI (jI t 0 1 (Int32.ofNat 0)) 0 5 (Int32.ofNat 1)) 0 6 (Int32.ofNat 1600), .inl (some (.int (-1)))) := by
          unfold cf_3_15 cf_3_27
          rw [l32_1600, if_neg (by rw [q]; exact fun z => z)]
          rfl
        have hm3 : mf_59_15 N (Int32.ofNat n) s = some (mI (mI (flt s1 (Int32.ofNat 1) (Int32.ofNat 1600)) 45 (Int32.ofNat 1)) 46 (Int32.ofNat 1600), some (.int (-1))) := by
          have e1 : mf_59_15 N (Int32.ofNat n) s = mf_59_62 N s1 := by
            unfold mf_59_15
            rw [l32_1600, if_neg (by rw [q]; exact fun z => z), hs1]
            rfl
          rw [e1]
          unfold mf_59_62
          rw [l32_1, l32_1600, hb]
          rfl
        have fs3 : ∀ q, ¬ (q = 9 ∨ q = 10 ∨ q = 45 ∨ q = 46) → (mI (mI (flt s1 (Int32.ofNat 1) (Int32.ofNat 1600)) 45 (Int32.ofNat 1)) 46 (Int32.ofNat 1600)).1 q = s1.1 q := fun q r => by
          show (if q = 46 then _ else if q = 45 then _ else if q = 10 then _ else if q = 9 then _ else s1.1 q) = _
          rw [if_neg (by omega), if_neg (by omega), if_neg (by omega), if_neg (by omega)]
        have kI3 : ∀ k f, ¬ (k = 0 ∧ (f = 1 ∨ f = 5 ∨ f = 6)) → kI (jI (jI (jI t 0 1 (Int32.ofNat 0)) 0 5 (Int32.ofNat 1)) 0 6 (Int32.ofNat 1600)) k f = kI t k f := fun k f r => by
          show (if k = 0 ∧ f = 6 then _ else if k = 0 ∧ f = 5 then _ else if k = 0 ∧ f = 1 then _ else kI t k f) = _
          rw [if_neg (by omega), if_neg (by omega), if_neg (by omega)]
        refine ⟨_, _, -1, p, p', e, hc3, hm3, tape _ _ rfl ?_ rfl, ⟨rfl, rfl⟩, ⟨l1, l2, l3, l4, l5, fun w hw => ?_, fun w hw => ?_, ?_, ?_, l10⟩, hG.kp rfl (fun f => kI3 p f (by rcases hpp with y | y <;> omega)) (fun j _ _ => ⟨rfl, rfl⟩) ?_ ?_ (fun q y _ _ _ => ?_) (fun q y _ _ _ => ?_), ⟨fun k f r => kI3 k f (by omega), fun _ _ _ => rfl, fun _ _ _ => ⟨rfl, rfl, rfl⟩, rfl, rfl, Nat.le_refl _, ?_, ?_⟩, ?_, Or.inr ⟨by rw [fs3 13 (by omega), fs1 13 (by omega)], by rw [fs3 14 (by omega), fs1 14 (by omega)]⟩⟩
        · rw [fs3 3 (by omega)]
          exact v3
        · show s1.2.2.2 0 w = _
          rw [vr]
          exact l6 w hw
        · show s1.2.2.1 1 w = _
          rw [vr]
          exact l7 w hw
        · exact Kd.kp (by rw [fs3 44 (by omega), fs1 44 (by omega)]) (fun q _ => by show s1.2.2.1 q = _; rw [vr]) (by show s1.2.2.2 42 = _; rw [vr]) l8
        · rw [fs3 12 (by omega), fs1 12 (by omega)]
          exact l9
        · rw [fs3 12 (by omega), fs1 12 (by omega)]
        · rw [fs3 14 (by omega), fs1 14 (by omega)]
        · show s1.2.2.1 q y = _
          rw [vr]
        · show s1.2.2.1 q y = _
          rw [vr]
        · show kN t + potL t ≤ kN t + potL t + 1
          omega
        · show kQ t + poqL t ≤ kQ t + poqL t + 6
          omega
        · exact W1.tr ⟨fun q r => fs3 q (by omega), fun q _ => rfl, fun q _ => rfl, fun q _ => rfl⟩
    · refine ⟨t, s, -2, p, p', e, ?_, ?_, ⟨m, L, hB, hmL, hm20, hLL⟩, hF, hL, hG, gW.rf, fW2.rf, Or.inr ⟨rfl, rfl⟩⟩
      · unfold cf_3 cf_3_0 cf_3_4 cf_3_12
        simp (disch := omega) only [ev_S, ev_C, ↓reduceIte, Nat.reduceEqDiff, Nat.reduceLeDiff, Nat.reduceAdd, Nat.reduceMul, Nat.reduceSub, reduceCtorEq, l32_0, l32_1, l32_2, l32_3, l32_4, l32_5, l32_6, l32_7, l32_8, l32_9, l32_10, l32_11, l32_12, l32_13, l32_14, l32_15, l32_16, l32_17, l32_18, l32_19, l32_20, l32_21, l32_22, l32_23, l32_24, l32_25, l32_26, l32_27, l32_28, l32_29, l32_33, l32_40, l32_41, l32_44, l32_45, l32_59, l32_61, l32_91, l32_93, l32_123, l32_125, k01, nm]
      · unfold mf_59 mf_59_0 mf_59_4 mf_59_12
        simp (disch := omega) only [ev_S, ev_P, ↓reduceIte, Nat.reduceEqDiff, Nat.reduceLeDiff, Nat.reduceAdd, Nat.reduceMul, Nat.reduceSub, reduceCtorEq, l32_0, l32_1, l32_2, l32_3, l32_4, l32_5, l32_6, l32_7, l32_8, l32_9, l32_10, l32_11, l32_12, l32_13, l32_14, l32_15, l32_16, l32_17, l32_18, l32_19, l32_20, l32_21, l32_22, l32_23, l32_24, l32_25, l32_26, l32_27, l32_28, l32_29, l32_33, l32_40, l32_41, l32_44, l32_45, l32_59, l32_61, l32_91, l32_93, l32_123, l32_125, s3, nm]
end LOB
