/-! ===== PURE: functions (5): what holds between functions ===== -/
/-- jumps stay within a function -/
def FJ (code : List Ins) (a z : Nat) : Prop := ∀ m, a ≤ m → m < z → noJ (code.getD m dI) ∨ (a ≤ (code.getD m dI).2.1 ∧ (code.getD m dI).2.1 < z ∧ ((code.getD m dI).1 = 23 → (code.getD (code.getD m dI).2.1 dI).1 = 25 ∧ (code.getD (code.getD m dI).2.1 dI).2.2.1 = (code.getD m dI).2.2.1 ∧ (code.getD (code.getD m dI).2.1 dI).2.2.2.2.1 = (code.getD m dI).2.2.2.2.1) ∧ ∃ L L', lyo (code.take m) = some L ∧ lyo (code.take (code.getD m dI).2.1) = some L' ∧ jl (code.getD m dI) L L')
/-- a function that is ended -/
def FOK (code : List Ins) (f : Fn) : Prop := f.2.2.2.2.1 < f.2.2.2.2.2 ∧ f.2.2.2.2.2 ≤ code.length ∧ lyo (code.take f.2.2.2.2.1) = some [] ∧ (∀ m, f.2.2.2.2.1 ≤ m → m < f.2.2.2.2.2 → okI f.2.2.2.1 (code.getD m dI)) ∧ FJ code f.2.2.2.2.1 f.2.2.2.2.2 ∧ (code.getD (f.2.2.2.2.2 - 1) dI).1 = 20 ∧ (f.2.2.1 ≤ f.2.2.2.1 ∧ f.2.2.2.1 ≤ 14 ∧ f.2.2.1 ≤ 4) ∧ okL f.1 ∧ f.1.length ≤ 8 ∧ f.2.1 ≤ 1600
/-- both parsers between two functions -/
def QE (b : Nat → Nat) (n p e i : Nat) (code : List Ins) (cl : List Cn) (Fs : List Fn) (t : cS) (s : mS) : Prop := pR b n i 0 t s ∧ cCd t p (CA code) ∧ rCd s e (RA e code) ∧ wfC code ∧ Kd s ∧ (kB t 7).1 = 14 ∧ cCl t (cl.map (cK code)) ∧ rCl s (cl.map (rK e code)) ∧ okX code cl cl ∧ lyo code = some [] ∧ rl code + xl code + cl.length ≤ i + 1 ∧ cl.length ≤ rl code ∧ cx code ≤ 4 * i + 4 ∧ cFt t p Fs.length code Fs ∧ rFt s e Fs.length code Fs ∧ (∀ f ∈ Fs, FOK code f) ∧ rWn s ∧ rB s []
def FRf (p e : Nat) (t t' : cS) (s s' : mS) : Prop := gL (eF p) (aF p) t t' ∧ fJ e s s'
/-- sizes, those of the functions' tables too -/
def SZf (p : Nat) (t : cS) : Prop := SZ p t ∧ (kB t (p + 4)).1 = 12 ∧ (kA t (p + 5)).1 = 12 ∧ (kA t (p + 6)).1 = 12 ∧ (kA t (p + 7)).1 = 12 ∧ (kA t (p + 8)).1 = 12
def FXf (p e : Nat) (t t' : cS) (s s' : mS) : Prop := gX (eF p) (aF p) t t' ∧ fJ e s s' ∧ SZf p t'
section QEL
variable {N : Nat} {X : Nat → Option zz_C} {t t' t1 t2 : cS} {s s' s1 s2 : mS} {b : Nat → Nat} {n p e i op c : Nat} {code l : List Ins} {Fs : List Fn} {f : Fn} {E : Nat → Nat → Prop} {A : Nat → Prop}
theorem FJ.app {a z : Nat} (h : FJ code a z) (hz : z ≤ code.length) : FJ (code ++ l) a z := fun m h1 h2 => by
  rw [getD_appl (by omega)]
  rcases h m h1 h2 with h | ⟨g1, g2, g3, L, L', g4, g5, g6⟩
  · exact Or.inl h
  · refine Or.inr ⟨g1, g2, fun y => ?_, L, L', ?_, ?_, g6⟩
    · rw [getD_appl (by omega)]
      exact g3 y
    · rw [List.take_append_of_le_length (by omega)]
      exact g4
    · rw [List.take_append_of_le_length (by omega)]
      exact g5
theorem FOK.app (h : FOK code f) : FOK (code ++ l) f := by
  obtain ⟨h1, h2, h3, h4, h5, h6, h7⟩ := h
  refine ⟨h1, by rw [List.length_append]; omega, ?_, fun m m1 m2 => ?_, h5.app h2, ?_, h7⟩
  · rw [List.take_append_of_le_length (by omega)]
    exact h3
  · rw [getD_appl (by omega)]
    exact h4 m m1 m2
  · rw [getD_appl (by omega)]
    exact h6
theorem JP.F {a z : Nat} (h : JP code a code.length) (hz : code.length < z) (hl : ∀ c ∈ l, noJ c) (hzl : z ≤ (code ++ l).length) : FJ (code ++ l) a z := fun m h1 h2 => by
  by_cases y : m < code.length
  · rw [getD_appl y]
    rcases h m h1 y with h | ⟨g1, g2, g3, L, L', g4, g5, g6⟩
    · exact Or.inl h
    · refine Or.inr ⟨g1, by omega, fun q => ?_, L, L', ?_, ?_, g6⟩
      · have g3 := g3 q
        have hlt : (code.getD m dI).2.1 < code.length := by
          by_cases w : (code.getD m dI).2.1 < code.length
          · exact w
          · rw [getD_out (by omega)] at g3
            exact absurd g3.1 (by decide)
        rw [getD_appl hlt]
        exact g3
      · rw [List.take_append_of_le_length (by omega)]
        exact g4
      · rw [List.take_append_of_le_length g2]
        exact g5
  · refine Or.inl (hl _ ?_)
    have hm : m < (code ++ l).length := by omega
    rw [List.getD_eq_getElem?_getD, List.getElem?_eq_getElem hm]
    show (code ++ l)[m] ∈ l
    rw [List.getElem_append_right (by omega)]
    exact List.getElem_mem _
theorem cFt.keep (h : cFt t p c code Fs) (g : gL E A t t') (hp : p = 12 ∨ p = 21) (hE : ¬ E p 4) (hA : ∀ k, A k → ¬ (k = p + 4 ∨ k = p + 5 ∨ k = p + 6 ∨ k = p + 7 ∨ k = p + 8)) : cFt t' p c code Fs := by
  obtain ⟨g1, g2, g3, g4, g5, g6, g7, g8, g9⟩ := h
  have kA' : ∀ j, 4 ≤ j → j ≤ 8 → kA t' (p + j) = kA t (p + j) ∧ kB t' (p + j) = kB t (p + j) := fun j h1 h2 => by
    have := g.2.2.1 (p + j) (fun z => hA _ z (by omega)) (by rcases hp with y | y <;> omega)
    exact ⟨this.1, this.2.1⟩
  refine ⟨by rw [g.1 p 4 hE]; exact g1, g2, g3, by rw [(kA' 4 (by omega) (by omega)).2]; exact g4, by rw [(kA' 5 (by omega) (by omega)).1]; exact g5, by rw [(kA' 6 (by omega) (by omega)).1]; exact g6, by rw [(kA' 7 (by omega) (by omega)).1]; exact g7, by rw [(kA' 8 (by omega) (by omega)).1]; exact g8, ?_⟩
  rw [(kA' 4 (by omega) (by omega)).2, (kA' 5 (by omega) (by omega)).1, (kA' 6 (by omega) (by omega)).1, (kA' 7 (by omega) (by omega)).1, (kA' 8 (by omega) (by omega)).1]
  exact g9
theorem rFt.keep (h : rFt s e c code Fs) (h1 : s'.1 15 = s.1 15) (h2 : ∀ q, q = 17 ∨ q = 18 ∨ q = 19 ∨ q = 20 → s'.2.2.1 q = s.2.2.1 q) (h3 : s'.2.2.2 16 = s.2.2.2 16) : rFt s' e c code Fs := by
  refine ⟨by rw [h1]; exact h.1, ?_⟩
  rw [h2 17 (by omega), h2 18 (by omega), h2 19 (by omega), h2 20 (by omega), h3]
  exact h.2
/-- the class counts parameters, and variables -/
theorem c_cntP {v : Int32} (hp : p = 12 ∨ p = 21) (h : cFt t p (Fs.length + 1) code Fs) : ∃ t1, cf_207 N X p v t = some (t1, .inl none) ∧ cFt t1 p (Fs.length + 1) code Fs ∧ (kA t1 (p + 6)).2 Fs.length = v ∧ gL (fun _ _ => False) (fun k => k = p + 6) t t1 ∧ kL t1 = kL t := by
  obtain ⟨a1, a2, a3, a4, a5, a6, a7, a8, a9⟩ := h
  rcases hp with hp | hp <;> subst hp
  · refine ⟨jA t 18 (upd (kA t 18).2 Fs.length v), ?_, ⟨a1, a2, a3, a4, a5, a6, a7, a8, fun k hk => ?_⟩, upd_s, ⟨fun _ _ _ => rfl, fun _ _ _ => rfl, fun k r1 r2 => ⟨if_neg r1, rfl, rfl⟩, rfl, rfl, Nat.le_refl _, Nat.le_refl _, Nat.le_refl _⟩, rfl⟩
    · have a6 : (kA t 18).1 = 12 := a6
      repeat ((first | unfold cf_207 | unfold cf_207_0 | unfold cf_207_7 | unfold cf_207_19); try simp (disch := omega) only [ev_S, ev_C, ↓reduceIte, Nat.reduceEqDiff, Nat.reduceLeDiff, Nat.reduceAdd, Nat.reduceMul, Nat.reduceSub, reduceCtorEq, l32_0, l32_1, l32_2, l32_3, l32_4, l32_6, l32_12, l32_21, a1, a6])
    · obtain ⟨q1, q2, q3, q4, q5⟩ := a9 k hk
      exact ⟨q1, q2, (upd_n (by omega)).trans q3, q4, q5⟩
  · refine ⟨jA t 27 (upd (kA t 27).2 Fs.length v), ?_, ⟨a1, a2, a3, a4, a5, a6, a7, a8, fun k hk => ?_⟩, upd_s, ⟨fun _ _ _ => rfl, fun _ _ _ => rfl, fun k r1 r2 => ⟨if_neg r1, rfl, rfl⟩, rfl, rfl, Nat.le_refl _, Nat.le_refl _, Nat.le_refl _⟩, rfl⟩
    · have a6 : (kA t 27).1 = 12 := a6
      repeat ((first | unfold cf_207 | unfold cf_207_0 | unfold cf_207_7 | unfold cf_207_19); try simp (disch := omega) only [ev_S, ev_C, ↓reduceIte, Nat.reduceEqDiff, Nat.reduceLeDiff, Nat.reduceAdd, Nat.reduceMul, Nat.reduceSub, reduceCtorEq, l32_0, l32_1, l32_2, l32_3, l32_4, l32_6, l32_12, l32_21, a1, a6])
    · obtain ⟨q1, q2, q3, q4, q5⟩ := a9 k hk
      exact ⟨q1, q2, (upd_n (by omega)).trans q3, q4, q5⟩
theorem c_cntV {v : Int32} (hp : p = 12 ∨ p = 21) (h : cFt t p (Fs.length + 1) code Fs) : ∃ t1, cf_208 N X p v t = some (t1, .inl none) ∧ cFt t1 p (Fs.length + 1) code Fs ∧ (kA t1 (p + 7)).2 Fs.length = v ∧ gL (fun _ _ => False) (fun k => k = p + 7) t t1 ∧ kL t1 = kL t := by
  obtain ⟨a1, a2, a3, a4, a5, a6, a7, a8, a9⟩ := h
  rcases hp with hp | hp <;> subst hp
  · refine ⟨jA t 19 (upd (kA t 19).2 Fs.length v), ?_, ⟨a1, a2, a3, a4, a5, a6, a7, a8, fun k hk => ?_⟩, upd_s, ⟨fun _ _ _ => rfl, fun _ _ _ => rfl, fun k r1 r2 => ⟨if_neg r1, rfl, rfl⟩, rfl, rfl, Nat.le_refl _, Nat.le_refl _, Nat.le_refl _⟩, rfl⟩
    · have a7 : (kA t 19).1 = 12 := a7
      repeat ((first | unfold cf_208 | unfold cf_208_0 | unfold cf_208_7 | unfold cf_208_19); try simp (disch := omega) only [ev_S, ev_C, ↓reduceIte, Nat.reduceEqDiff, Nat.reduceLeDiff, Nat.reduceAdd, Nat.reduceMul, Nat.reduceSub, reduceCtorEq, l32_0, l32_1, l32_2, l32_3, l32_4, l32_7, l32_12, l32_21, a1, a7])
    · obtain ⟨q1, q2, q3, q4, q5⟩ := a9 k hk
      exact ⟨q1, q2, q3, (upd_n (by omega)).trans q4, q5⟩
  · refine ⟨jA t 28 (upd (kA t 28).2 Fs.length v), ?_, ⟨a1, a2, a3, a4, a5, a6, a7, a8, fun k hk => ?_⟩, upd_s, ⟨fun _ _ _ => rfl, fun _ _ _ => rfl, fun k r1 r2 => ⟨if_neg r1, rfl, rfl⟩, rfl, rfl, Nat.le_refl _, Nat.le_refl _, Nat.le_refl _⟩, rfl⟩
    · have a7 : (kA t 28).1 = 12 := a7
      repeat ((first | unfold cf_208 | unfold cf_208_0 | unfold cf_208_7 | unfold cf_208_19); try simp (disch := omega) only [ev_S, ev_C, ↓reduceIte, Nat.reduceEqDiff, Nat.reduceLeDiff, Nat.reduceAdd, Nat.reduceMul, Nat.reduceSub, reduceCtorEq, l32_0, l32_1, l32_2, l32_3, l32_4, l32_7, l32_12, l32_21, a1, a7])
    · obtain ⟨q1, q2, q3, q4, q5⟩ := a9 k hk
      exact ⟨q1, q2, q3, (upd_n (by omega)).trans q4, q5⟩
theorem FRf.tr (h : FRf p e t t1 s s1) (g : FRf p e t1 t2 s1 s2) : FRf p e t t2 s s2 := ⟨h.1.tr g.1, h.2.tr g.2⟩
theorem FRf.pre (h : FRf p e t t1 s s1) (g : FXf p e t1 t2 s1 s2) : FXf p e t t2 s s2 := ⟨gX.pre h.1 g.1, h.2.tr g.2.1, g.2.2⟩
theorem FRs.F (h : FRs p e t t' s s') : FRf p e t t' s s' := ⟨h.1.mono (fun k f z => Or.inl z) (fun k z => Or.inl z), fS.F h.2⟩
theorem cFt.sz (h : cFt t p c code Fs) (g : gX E A t t') (hp : p = 12 ∨ p = 21) (hA : ∀ k, A k → ¬ (k = p + 4 ∨ k = p + 5 ∨ k = p + 6 ∨ k = p + 7 ∨ k = p + 8)) (hz : SZ p t') : SZf p t' := by
  obtain ⟨g1, g2, g3, g4, g5, g6, g7, g8, g9⟩ := h
  have e : ∀ j, 4 ≤ j → j ≤ 8 → kA t' (p + j) = kA t (p + j) ∧ kB t' (p + j) = kB t (p + j) := fun j h1 h2 => by
    have := g.2.2.1 (p + j) (fun z => hA _ z (by omega)) (by rcases hp with y | y <;> omega)
    exact ⟨this.1, this.2.1⟩
  refine ⟨hz, ?_, ?_, ?_, ?_, ?_⟩
  · rw [(e 4 (by omega) (by omega)).2]
    exact g4
  · rw [(e 5 (by omega) (by omega)).1]
    exact g5
  · rw [(e 6 (by omega) (by omega)).1]
    exact g6
  · rw [(e 7 (by omega) (by omega)).1]
    exact g7
  · rw [(e 8 (by omega) (by omega)).1]
    exact g8
theorem FXs.F (h : FXs p e t t' s s') (hc : cFt t p c code Fs) (hp : p = 12 ∨ p = 21) : FXf p e t t' s s' := ⟨h.1.mono (fun k f z => Or.inl z) (fun k z => Or.inl z), fS.F h.2.1, hc.sz h.1 hp (fun k z => by rcases hp with y | y <;> subst y <;> omega) h.2.2⟩
/-- a round at the text's outermost -/
theorem TW_0 {f : Nat} (h : pR b n i op t s) (h37 : s.1 37 = Int32.ofNat 0) (hk : ∀ hi : i < (TL b n).length, ¬ (TL b n)[i].1 = 0) : TW N (f + 1) s = mo_bv (mf_269 N (Int32.ofNat 0) s) (fun s1 => mo_bv (mf_66 N s1) (fun s2 => TW N f s2)) := by
  obtain ⟨hi, e5, e6, e7, hkk, ho, he, hlt, hll⟩ := h.now
  have hk := hk hi
  have h9 : s.1 9 = Int32.ofNat 0 := h.2.2.2.2.2.2.2.2.2
  have h5 : ∃ x : Nat, 1 ≤ x ∧ x ≤ 4 ∧ s.1 5 = Int32.ofNat x := by
    obtain ⟨y1, y2, y3 | y3 | y3 | y3 | y3⟩ := hkk
    · exact absurd y3.1 hk
    · exact ⟨4, by omega, by omega, y3.2⟩
    · exact ⟨2, by omega, by omega, y3.2.1⟩
    · exact ⟨1, by omega, by omega, y3.2.1⟩
    · exact ⟨3, by omega, by omega, y3.2.2.1⟩
  obtain ⟨x, x1, x2, h5⟩ := h5
  have x0 : ¬ x = 0 := by omega
  show mf_63_5 N (mf_63_L1 N f) s = _
  unfold mf_63_5 mf_63_12 mf_63_19 mf_63_26 mf_63_33
  simp (disch := omega) only [ev_S, ev_P, ↓reduceIte, Nat.reduceEqDiff, Nat.reduceLeDiff, Nat.reduceAdd, Nat.reduceMul, Nat.reduceSub, reduceCtorEq, l32_0, l32_1, l32_2, l32_3, l32_4, l32_5, l32_6, l32_7, l32_8, l32_9, l32_10, l32_11, l32_12, l32_13, l32_14, l32_15, l32_16, l32_17, l32_18, l32_19, l32_20, l32_21, l32_22, l32_23, l32_24, l32_25, l32_26, l32_27, l32_28, l32_29, l32_33, l32_40, l32_41, l32_44, l32_45, l32_59, l32_61, l32_91, l32_93, l32_123, l32_125, h9, h37, h5, x0]
  rfl
/-- the text's end -/
theorem TW_e {f : Nat} (h : pR b n i op t s) (h37 : s.1 37 = Int32.ofNat 0) (hk : ∀ hi : i < (TL b n).length, (TL b n)[i].1 = 0) : TW N (f + 1) s = some (s, none) := by
  obtain ⟨hi, e5, e6, e7, hkk, ho, he, hlt, hll⟩ := h.now
  have hk := hk hi
  have h9 : s.1 9 = Int32.ofNat 0 := h.2.2.2.2.2.2.2.2.2
  have h5 : s.1 5 = Int32.ofNat 0 := by
    obtain ⟨y1, y2, y3 | y3 | y3 | y3 | y3⟩ := hkk
    · exact y3.2
    · omega
    · omega
    · omega
    · omega
  show mf_63_5 N (mf_63_L1 N f) s = _
  unfold mf_63_5 mf_63_12 mf_63_19 mf_63_68
  simp (disch := omega) only [ev_S, ev_P, ↓reduceIte, Nat.reduceEqDiff, Nat.reduceLeDiff, Nat.reduceAdd, Nat.reduceMul, Nat.reduceSub, reduceCtorEq, l32_0, l32_1, l32_2, l32_3, l32_4, l32_5, l32_6, l32_7, l32_8, l32_9, l32_10, l32_11, l32_12, l32_13, l32_14, l32_15, l32_16, l32_17, l32_18, l32_19, l32_20, l32_21, l32_22, l32_23, l32_24, l32_25, l32_26, l32_27, l32_28, l32_29, l32_33, l32_40, l32_41, l32_44, l32_45, l32_59, l32_61, l32_91, l32_93, l32_123, l32_125, h9, h37, h5]
end QEL
