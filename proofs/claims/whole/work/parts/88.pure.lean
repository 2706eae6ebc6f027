/-! ===== PURE: words and numbers of the text ===== -/
/-- letters, the last first, in a base -/
def evB (B : Nat) : List Nat → Nat
  | [] => 0
  | d :: r => B * evB B r + d
def okL (ls : List Nat) : Prop := ∀ d ∈ ls, 1 ≤ d ∧ d ≤ 26
theorem evB_inj {B : Nat} (hB : 27 ≤ B) : ∀ {l l' : List Nat}, okL l → okL l' → evB B l = evB B l' → l = l'
  | [], [], _, _, _ => rfl
  | [], d :: r, _, h, e => by
    have := h d List.mem_cons_self
    have e : 0 = B * evB B r + d := e
    omega
  | d :: r, [], h, _, e => by
    have := h d List.mem_cons_self
    have e : B * evB B r + d = 0 := e
    omega
  | d :: r, d' :: r', h, h', e => by
    have h1 := h d List.mem_cons_self
    have h2 := h' d' List.mem_cons_self
    have e : B * evB B r + d = B * evB B r' + d' := e
    have ed : d = d' := by
      have q1 : (B * evB B r + d) % B = d := by rw [Nat.mul_add_mod]; exact Nat.mod_eq_of_lt (by omega)
      have q2 : (B * evB B r' + d') % B = d' := by rw [Nat.mul_add_mod]; exact Nat.mod_eq_of_lt (by omega)
      rw [← q1, ← q2, e]
    subst ed
    have er : evB B r = evB B r' := Nat.eq_of_mul_eq_mul_left (show 0 < B by omega) (by omega)
    rw [evB_inj hB (fun x hx => h x (List.mem_cons_of_mem _ hx)) (fun x hx => h' x (List.mem_cons_of_mem _ hx)) er]
/-- the letters from a on -/
def wrd (b : Nat → Nat) (n : Nat) : Nat → Nat → List Nat → Nat × List Nat
  | 0, a, ls => (a, ls)
  | f + 1, a, ls => if 97 ≤ b a ∧ b a ≤ 122 then wrd b n f (a + 1) ((b a - 96) :: ls) else (a, ls)
theorem wrd_ok {b : Nat → Nat} {n : Nat} : ∀ (f a : Nat) (ls : List Nat), okL ls → okL (wrd b n f a ls).2 ∧ a ≤ (wrd b n f a ls).1 ∧ (wrd b n f a ls).1 ≤ a + f ∧ (wrd b n f a ls).2.length + a = (wrd b n f a ls).1 + ls.length
  | 0, a, ls, h => ⟨h, Nat.le_refl _, Nat.le_refl _, Nat.add_comm _ _⟩
  | f + 1, a, ls, h => by
    unfold wrd
    split
    · rename_i c
      obtain ⟨h1, h2, h3, h4⟩ := wrd_ok (b := b) (n := n) f (a + 1) ((b a - 96) :: ls) (fun d hd => by
        obtain e | e := List.mem_cons.mp hd
        · omega
        · exact h d e)
      rw [List.length_cons] at h4
      exact ⟨h1, by omega, by omega, by omega⟩
    · exact ⟨h, Nat.le_refl _, Nat.le_add_right _ _, Nat.add_comm _ _⟩
/-- the digits from a on -/
def nmb (b : Nat → Nat) (n : Nat) : Nat → Nat → Nat → Nat × Nat
  | 0, a, v => (a, v)
  | f + 1, a, v => if 48 ≤ b a ∧ b a ≤ 57 then nmb b n f (a + 1) (10 * v + (b a - 48)) else (a, v)
theorem nmb_ok {b : Nat → Nat} {n : Nat} : ∀ (f a v c : Nat), v < 10 ^ c → ∃ d, (nmb b n f a v).1 = a + d ∧ d ≤ f ∧ (nmb b n f a v).2 < 10 ^ (c + d)
  | 0, a, v, c, h => ⟨0, rfl, Nat.le_refl _, h⟩
  | f + 1, a, v, c, h => by
    unfold nmb
    split
    · rename_i k
      obtain ⟨d, h1, h2, h3⟩ := nmb_ok (b := b) (n := n) f (a + 1) (10 * v + (b a - 48)) (c + 1) (by rw [Nat.pow_succ]; omega)
      exact ⟨d + 1, by rw [h1]; omega, by omega, by rw [show c + (d + 1) = c + 1 + d by omega]; exact h3⟩
    · exact ⟨0, rfl, Nat.zero_le _, h⟩
theorem l64_32 : (32 : Int64) = Int64.ofNat 32 := rfl
theorem l64_27 : (27 : Int64) = Int64.ofNat 27 := rfl
theorem l64_96 : (96 : Int64) = Int64.ofNat 96 := rfl
theorem l64_mx : (2147483647 : Int64) = Int64.ofNat 2147483647 := rfl
section WRD
variable {N : Nat} {X : Nat → Option zz_C} {t : cS} {s : mS} {b : Nat → Nat} {n x1 : Nat}
theorem sb_l {k : Nat} (h : k < 128) : sb k = Int32.ofNat k := if_pos h
theorem sb_g {k : Nat} (h : ¬ k < 128) : sb k = -Int32.ofNat (256 - k) := if_neg h
theorem c_wrd (h : cTx t x1 b n) {fr : Nat} : ∀ (f a q : Nat) (ls : List Nat), a + f = n → cf_245_L9 N X (q + (f + 1)) 0 x1 (Int32.ofNat n) (Int32.ofNat fr) (Int64.ofNat (evB 32 ls)) (Int32.ofNat a) t = cf_245_54 N X (Int32.ofNat fr) (Int64.ofNat (evB 32 (wrd b n f a ls).2)) (Int32.ofNat (wrd b n f a ls).1) t := by
  obtain ⟨h1, h2, h3, h4, h5, h6⟩ := h
  intro f
  induction f with
  | zero =>
    intro a q ls ha
    have ha : a = n := ha
    subst ha
    show cf_245_6 N X (cf_245_L9 N X q) x1 (Int32.ofNat a) (Int32.ofNat fr) (Int64.ofNat (evB 32 ls)) (Int32.ofNat a) t = _
    unfold cf_245_6
    simp (disch := omega) only [ev_S, ev_C, ↓reduceIte, Nat.reduceEqDiff, Nat.reduceLeDiff, Nat.reduceAdd, Nat.reduceMul, Nat.reduceSub, reduceCtorEq, l32_0, l32_1, l32_2, l32_3, l32_4, l32_5, l32_6, l32_7, l32_8, l32_9, l32_10, h1]
    rfl
  | succ f ih =>
    intro a q ls ha
    have ha1 : a < n := by omega
    have hb := h5 a
    have hc := h6 a ha1
    show cf_245_6 N X (cf_245_L9 N X (q + (f + 1))) x1 (Int32.ofNat n) (Int32.ofNat fr) (Int64.ofNat (evB 32 ls)) (Int32.ofNat a) t = _
    by_cases c8 : b a < 128
    · rw [sb_l c8] at hc
      by_cases cl : 97 ≤ b a ∧ b a ≤ 122
      · have ew : wrd b n (f + 1) a ls = wrd b n f (a + 1) ((b a - 96) :: ls) := if_pos cl
        rw [ew, ← ih (a + 1) q _ (by omega)]
        have ev : evB 32 ls * 32 + b a - 96 = evB 32 ((b a - 96) :: ls) := by
          show _ = 32 * evB 32 ls + (b a - 96)
          omega
        unfold cf_245_6 cf_245_12 cf_245_21 cf_245_30
        simp (disch := omega) only [ev_S, ev_C, ↓reduceIte, Nat.reduceEqDiff, Nat.reduceLeDiff, Nat.reduceAdd, Nat.reduceMul, Nat.reduceSub, reduceCtorEq, l32_0, l32_1, l32_2, l32_3, l32_4, l32_5, l32_6, l32_7, l32_8, l32_9, l32_10, h1, hc, l32_97, l32_122, l64_32, l64_96, i64mul, i64add, i64sub, i64of32, ev]
      · have ew : wrd b n (f + 1) a ls = (a, ls) := if_neg cl
        rw [ew]
        by_cases c2 : b a < 97
        · unfold cf_245_6 cf_245_12
          simp (disch := omega) only [ev_S, ev_C, ↓reduceIte, Nat.reduceEqDiff, Nat.reduceLeDiff, Nat.reduceAdd, Nat.reduceMul, Nat.reduceSub, reduceCtorEq, l32_0, l32_1, l32_2, l32_3, l32_4, l32_5, l32_6, l32_7, l32_8, l32_9, l32_10, h1, hc, l32_97, l32_122]
        · have c3 : 122 < b a := by omega
          unfold cf_245_6 cf_245_12 cf_245_21
          simp (disch := omega) only [ev_S, ev_C, ↓reduceIte, Nat.reduceEqDiff, Nat.reduceLeDiff, Nat.reduceAdd, Nat.reduceMul, Nat.reduceSub, reduceCtorEq, l32_0, l32_1, l32_2, l32_3, l32_4, l32_5, l32_6, l32_7, l32_8, l32_9, l32_10, h1, hc, l32_97, l32_122]
    · rw [sb_g c8] at hc
      have ew : wrd b n (f + 1) a ls = (a, ls) := if_neg (by omega)
      rw [ew]
      unfold cf_245_6 cf_245_12
      simp (disch := omega) only [ev_S, ev_C, ↓reduceIte, Nat.reduceEqDiff, Nat.reduceLeDiff, Nat.reduceAdd, Nat.reduceMul, Nat.reduceSub, reduceCtorEq, l32_0, l32_1, l32_2, l32_3, l32_4, l32_5, l32_6, l32_7, l32_8, l32_9, l32_10, h1, hc, ev_g1, l32_97]
theorem c_nmb (h : cTx t x1 b n) {fr : Nat} : ∀ (f a q v : Nat), a + f = n → cf_246_L6 N X (q + (f + 1)) 0 x1 (Int32.ofNat n) (Int32.ofNat fr) (Int64.ofNat v) (Int32.ofNat a) t = cf_246_54 N X (Int32.ofNat fr) (Int64.ofNat (nmb b n f a v).2) (Int32.ofNat (nmb b n f a v).1) t := by
  obtain ⟨h1, h2, h3, h4, h5, h6⟩ := h
  intro f
  induction f with
  | zero =>
    intro a q v ha
    have ha : a = n := ha
    subst ha
    show cf_246_6 N X (cf_246_L6 N X q) x1 (Int32.ofNat a) (Int32.ofNat fr) (Int64.ofNat v) (Int32.ofNat a) t = _
    unfold cf_246_6
    simp (disch := omega) only [ev_S, ev_C, ↓reduceIte, Nat.reduceEqDiff, Nat.reduceLeDiff, Nat.reduceAdd, Nat.reduceMul, Nat.reduceSub, reduceCtorEq, l32_0, l32_1, l32_2, l32_3, l32_4, l32_5, l32_6, l32_7, l32_8, l32_9, l32_10, h1]
    rfl
  | succ f ih =>
    intro a q v ha
    have ha1 : a < n := by omega
    have hb := h5 a
    have hc := h6 a ha1
    show cf_246_6 N X (cf_246_L6 N X (q + (f + 1))) x1 (Int32.ofNat n) (Int32.ofNat fr) (Int64.ofNat v) (Int32.ofNat a) t = _
    by_cases c8 : b a < 128
    · rw [sb_l c8] at hc
      by_cases cl : 48 ≤ b a ∧ b a ≤ 57
      · have ew : nmb b n (f + 1) a v = nmb b n f (a + 1) (10 * v + (b a - 48)) := if_pos cl
        rw [ew, ← ih (a + 1) q _ (by omega)]
        have ev : v * 10 + b a - 48 = 10 * v + (b a - 48) := by omega
        unfold cf_246_6 cf_246_12 cf_246_21 cf_246_30
        simp (disch := omega) only [ev_S, ev_C, ↓reduceIte, Nat.reduceEqDiff, Nat.reduceLeDiff, Nat.reduceAdd, Nat.reduceMul, Nat.reduceSub, reduceCtorEq, l32_0, l32_1, l32_2, l32_3, l32_4, l32_5, l32_6, l32_7, l32_8, l32_9, l32_10, h1, hc, l32_48, l32_57, l64_10, l64_48, i64mul, i64add, i64sub, i64of32, ev]
      · have ew : nmb b n (f + 1) a v = (a, v) := if_neg cl
        rw [ew]
        by_cases c2 : b a < 48
        · unfold cf_246_6 cf_246_12
          simp (disch := omega) only [ev_S, ev_C, ↓reduceIte, Nat.reduceEqDiff, Nat.reduceLeDiff, Nat.reduceAdd, Nat.reduceMul, Nat.reduceSub, reduceCtorEq, l32_0, l32_1, l32_2, l32_3, l32_4, l32_5, l32_6, l32_7, l32_8, l32_9, l32_10, h1, hc, l32_48, l32_57]
        · have c3 : 57 < b a := by omega
          unfold cf_246_6 cf_246_12 cf_246_21
          simp (disch := omega) only [ev_S, ev_C, ↓reduceIte, Nat.reduceEqDiff, Nat.reduceLeDiff, Nat.reduceAdd, Nat.reduceMul, Nat.reduceSub, reduceCtorEq, l32_0, l32_1, l32_2, l32_3, l32_4, l32_5, l32_6, l32_7, l32_8, l32_9, l32_10, h1, hc, l32_48, l32_57]
    · rw [sb_g c8] at hc
      have ew : nmb b n (f + 1) a v = (a, v) := if_neg (by omega)
      rw [ew]
      unfold cf_246_6 cf_246_12
      simp (disch := omega) only [ev_S, ev_C, ↓reduceIte, Nat.reduceEqDiff, Nat.reduceLeDiff, Nat.reduceAdd, Nat.reduceMul, Nat.reduceSub, reduceCtorEq, l32_0, l32_1, l32_2, l32_3, l32_4, l32_5, l32_6, l32_7, l32_8, l32_9, l32_10, h1, hc, ev_g1, l32_48]
theorem r_isL {c : Nat} (h : c < 256) : mf_257 N (Int32.ofNat c) s = some (s, some (.int (if 97 ≤ c ∧ c ≤ 122 then 1 else 0))) := by
  by_cases k : 97 ≤ c ∧ c ≤ 122
  · rw [if_pos k]
    obtain ⟨k1, k2⟩ := k
    repeat ((first | unfold mf_257 | unfold mf_257_0 | unfold mf_257_6 | unfold mf_257_12 | unfold mf_257_16 | unfold mf_257_17); try simp (disch := omega) only [ev_S, ev_P, ↓reduceIte, Nat.reduceEqDiff, Nat.reduceLeDiff, Nat.reduceAdd, Nat.reduceMul, Nat.reduceSub, reduceCtorEq, l32_0, l32_1, l32_2, l32_3, l32_4, l32_97, l32_122, l32_97, l32_122])
  · rw [if_neg k]
    by_cases k1 : c < 97
    · repeat ((first | unfold mf_257 | unfold mf_257_0 | unfold mf_257_6 | unfold mf_257_12 | unfold mf_257_16 | unfold mf_257_17); try simp (disch := omega) only [ev_S, ev_P, ↓reduceIte, Nat.reduceEqDiff, Nat.reduceLeDiff, Nat.reduceAdd, Nat.reduceMul, Nat.reduceSub, reduceCtorEq, l32_0, l32_1, l32_2, l32_3, l32_4, l32_97, l32_122, l32_97, l32_122])
    · have k2 : 122 < c := by omega
      repeat ((first | unfold mf_257 | unfold mf_257_0 | unfold mf_257_6 | unfold mf_257_12 | unfold mf_257_16 | unfold mf_257_17); try simp (disch := omega) only [ev_S, ev_P, ↓reduceIte, Nat.reduceEqDiff, Nat.reduceLeDiff, Nat.reduceAdd, Nat.reduceMul, Nat.reduceSub, reduceCtorEq, l32_0, l32_1, l32_2, l32_3, l32_4, l32_97, l32_122, l32_97, l32_122])
theorem r_isD {c : Nat} (h : c < 256) : mf_258 N (Int32.ofNat c) s = some (s, some (.int (if 48 ≤ c ∧ c ≤ 57 then 1 else 0))) := by
  by_cases k : 48 ≤ c ∧ c ≤ 57
  · rw [if_pos k]
    obtain ⟨k1, k2⟩ := k
    repeat ((first | unfold mf_258 | unfold mf_258_0 | unfold mf_258_6 | unfold mf_258_12 | unfold mf_258_16 | unfold mf_258_17); try simp (disch := omega) only [ev_S, ev_P, ↓reduceIte, Nat.reduceEqDiff, Nat.reduceLeDiff, Nat.reduceAdd, Nat.reduceMul, Nat.reduceSub, reduceCtorEq, l32_0, l32_1, l32_2, l32_3, l32_4, l32_48, l32_57, l32_48, l32_57])
  · rw [if_neg k]
    by_cases k1 : c < 48
    · repeat ((first | unfold mf_258 | unfold mf_258_0 | unfold mf_258_6 | unfold mf_258_12 | unfold mf_258_16 | unfold mf_258_17); try simp (disch := omega) only [ev_S, ev_P, ↓reduceIte, Nat.reduceEqDiff, Nat.reduceLeDiff, Nat.reduceAdd, Nat.reduceMul, Nat.reduceSub, reduceCtorEq, l32_0, l32_1, l32_2, l32_3, l32_4, l32_48, l32_57, l32_48, l32_57])
    · have k2 : 57 < c := by omega
      repeat ((first | unfold mf_258 | unfold mf_258_0 | unfold mf_258_6 | unfold mf_258_12 | unfold mf_258_16 | unfold mf_258_17); try simp (disch := omega) only [ev_S, ev_P, ↓reduceIte, Nat.reduceEqDiff, Nat.reduceLeDiff, Nat.reduceAdd, Nat.reduceMul, Nat.reduceSub, reduceCtorEq, l32_0, l32_1, l32_2, l32_3, l32_4, l32_48, l32_57, l32_48, l32_57])
theorem rTx_L {V : Int64} (h : rTx s b n) : rTx (mL s 7 V) b n := h
theorem r_wrd (h : rTx s b n) {fr : Nat} (h6 : s.1 6 = Int32.ofNat fr) : ∀ (f a q : Nat) (ls : List Nat) (V : Int64), a + f = n → fr + ls.length = a → (ls.length ≤ 8 → V = Int64.ofNat (evB 27 ls)) → ∃ V', mf_60_L15 N (q + (f + 1)) 0 (Int32.ofNat a) (mL s 7 V) = mf_60_105 N (Int32.ofNat (wrd b n f a ls).1) (mL s 7 V') ∧ ((wrd b n f a ls).2.length ≤ 8 → V' = Int64.ofNat (evB 27 (wrd b n f a ls).2)) := by
  have h4 := h.2.1
  have h5 := h.2.2.1
  intro f
  induction f with
  | zero =>
    intro a q ls V ha hl hV
    have ha : a = n := ha
    refine ⟨V, ?_, hV⟩
    have hy := r_byte (N := N) (rTx_L (V := V) h) (a := a) (by omega)
    rw [if_neg (by omega)] at hy
    have hl0 := r_isL (N := N) (s := mL s 7 V) (c := 0) (by decide)
    rw [if_neg (by decide)] at hl0
    show mf_60_54 N (mf_60_L15 N q) (Int32.ofNat a) (mL s 7 V) = _
    unfold mf_60_54 mf_60_59 mf_60_62
    simp (disch := omega) only [ev_S, ev_P, ↓reduceIte, Nat.reduceEqDiff, Nat.reduceLeDiff, Nat.reduceAdd, Nat.reduceMul, Nat.reduceSub, reduceCtorEq, l32_0, l32_1, l32_2, l32_3, l32_4, l32_5, l32_6, l32_7, l32_8, l32_9, l32_10, hy, hl0]
    rfl
  | succ f ih =>
    intro a q ls V ha hl hV
    have hy := r_byte (N := N) (rTx_L (V := V) h) (a := a) (by omega)
    rw [if_pos (by omega)] at hy
    have hl0 := r_isL (N := N) (s := mL s 7 V) (c := b a) (h5 a)
    have es : a - fr = ls.length := by omega
    show ∃ V', mf_60_54 N (mf_60_L15 N (q + (f + 1))) (Int32.ofNat a) (mL s 7 V) = _ ∧ _
    by_cases cl : 97 ≤ b a ∧ b a ≤ 122
    · rw [if_pos cl] at hl0
      have ew : wrd b n (f + 1) a ls = wrd b n f (a + 1) ((b a - 96) :: ls) := if_pos cl
      rw [ew]
      by_cases c8 : 8 ≤ ls.length
      · obtain ⟨V', k1, k2⟩ := ih (a + 1) q ((b a - 96) :: ls) V (by omega) (by rw [List.length_cons]; omega) (fun q => by rw [List.length_cons] at q; omega)
        refine ⟨V', ?_, k2⟩
        rw [← k1]
        unfold mf_60_54 mf_60_59 mf_60_62 mf_60_65 mf_60_99
        simp (disch := omega) only [ev_S, ev_P, ↓reduceIte, Nat.reduceEqDiff, Nat.reduceLeDiff, Nat.reduceAdd, Nat.reduceMul, Nat.reduceSub, reduceCtorEq, l32_0, l32_1, l32_2, l32_3, l32_4, l32_5, l32_6, l32_7, l32_8, l32_9, l32_10, hy, hl0, h6, es]
      · have hV := hV (by omega)
        subst hV
        obtain ⟨V', k1, k2⟩ := ih (a + 1) q ((b a - 96) :: ls) (Int64.ofNat (evB 27 ((b a - 96) :: ls))) (by omega) (by rw [List.length_cons]; omega) (fun _ => rfl)
        refine ⟨V', ?_, k2⟩
        rw [← k1]
        have ev : 27 * evB 27 ls + b a - 96 = evB 27 ((b a - 96) :: ls) := by
          show _ = 27 * evB 27 ls + (b a - 96)
          omega
        have hb := h5 a
        unfold mf_60_54 mf_60_59 mf_60_62 mf_60_65 mf_60_76 mf_60_90 mf_60_99
        simp (disch := omega) only [ev_S, ev_P, ↓reduceIte, Nat.reduceEqDiff, Nat.reduceLeDiff, Nat.reduceAdd, Nat.reduceMul, Nat.reduceSub, reduceCtorEq, l32_0, l32_1, l32_2, l32_3, l32_4, l32_5, l32_6, l32_7, l32_8, l32_9, l32_10, hy, hl0, h6, es, l64_27, l64_96, i64mul, i64add, i64sub, i64of32, ev, mL_mL]
    · rw [if_neg cl] at hl0
      have ew : wrd b n (f + 1) a ls = (a, ls) := if_neg cl
      rw [ew]
      refine ⟨V, ?_, hV⟩
      unfold mf_60_54 mf_60_59 mf_60_62
      simp (disch := omega) only [ev_S, ev_P, ↓reduceIte, Nat.reduceEqDiff, Nat.reduceLeDiff, Nat.reduceAdd, Nat.reduceMul, Nat.reduceSub, reduceCtorEq, l32_0, l32_1, l32_2, l32_3, l32_4, l32_5, l32_6, l32_7, l32_8, l32_9, l32_10, hy, hl0]
theorem r_nmb (h : rTx s b n) {fr : Nat} (h6 : s.1 6 = Int32.ofNat fr) : ∀ (f a q v : Nat) (V : Int64), a + f = n → fr ≤ a → (a - fr ≤ 10 → V = Int64.ofNat v) → ∃ V', mf_60_L8 N (q + (f + 1)) 0 (Int32.ofNat a) (mL s 7 V) = mf_60_186 N (Int32.ofNat (nmb b n f a v).1) (mL s 7 V') ∧ ((nmb b n f a v).1 - fr ≤ 10 → V' = Int64.ofNat (nmb b n f a v).2) := by
  have h4 := h.2.1
  have h5 := h.2.2.1
  intro f
  induction f with
  | zero =>
    intro a q v V ha hl hV
    have ha : a = n := ha
    refine ⟨V, ?_, hV⟩
    have hy := r_byte (N := N) (rTx_L (V := V) h) (a := a) (by omega)
    rw [if_neg (by omega)] at hy
    have hl0 := r_isD (N := N) (s := mL s 7 V) (c := 0) (by decide)
    rw [if_neg (by decide)] at hl0
    show mf_60_135 N (mf_60_L8 N q) (Int32.ofNat a) (mL s 7 V) = _
    unfold mf_60_135 mf_60_140 mf_60_143
    simp (disch := omega) only [ev_S, ev_P, ↓reduceIte, Nat.reduceEqDiff, Nat.reduceLeDiff, Nat.reduceAdd, Nat.reduceMul, Nat.reduceSub, reduceCtorEq, l32_0, l32_1, l32_2, l32_3, l32_4, l32_5, l32_6, l32_7, l32_8, l32_9, l32_10, hy, hl0]
    rfl
  | succ f ih =>
    intro a q v V ha hl hV
    have hy := r_byte (N := N) (rTx_L (V := V) h) (a := a) (by omega)
    rw [if_pos (by omega)] at hy
    have hl0 := r_isD (N := N) (s := mL s 7 V) (c := b a) (h5 a)
    show ∃ V', mf_60_135 N (mf_60_L8 N (q + (f + 1))) (Int32.ofNat a) (mL s 7 V) = _ ∧ _
    by_cases cl : 48 ≤ b a ∧ b a ≤ 57
    · rw [if_pos cl] at hl0
      have ew : nmb b n (f + 1) a v = nmb b n f (a + 1) (10 * v + (b a - 48)) := if_pos cl
      rw [ew]
      by_cases c8 : 10 ≤ a - fr
      · obtain ⟨V', k1, k2⟩ := ih (a + 1) q (10 * v + (b a - 48)) V (by omega) (by omega) (fun q => by omega)
        refine ⟨V', ?_, k2⟩
        rw [← k1]
        unfold mf_60_135 mf_60_140 mf_60_143 mf_60_146 mf_60_180
        simp (disch := omega) only [ev_S, ev_P, ↓reduceIte, Nat.reduceEqDiff, Nat.reduceLeDiff, Nat.reduceAdd, Nat.reduceMul, Nat.reduceSub, reduceCtorEq, l32_0, l32_1, l32_2, l32_3, l32_4, l32_5, l32_6, l32_7, l32_8, l32_9, l32_10, hy, hl0, h6, l32_10]
      · have hV := hV (by omega)
        subst hV
        obtain ⟨V', k1, k2⟩ := ih (a + 1) q (10 * v + (b a - 48)) (Int64.ofNat (10 * v + (b a - 48))) (by omega) (by omega) (fun _ => rfl)
        refine ⟨V', ?_, k2⟩
        rw [← k1]
        have ev : 10 * v + b a - 48 = 10 * v + (b a - 48) := by omega
        have hb := h5 a
        unfold mf_60_135 mf_60_140 mf_60_143 mf_60_146 mf_60_157 mf_60_171 mf_60_180
        simp (disch := omega) only [ev_S, ev_P, ↓reduceIte, Nat.reduceEqDiff, Nat.reduceLeDiff, Nat.reduceAdd, Nat.reduceMul, Nat.reduceSub, reduceCtorEq, l32_0, l32_1, l32_2, l32_3, l32_4, l32_5, l32_6, l32_7, l32_8, l32_9, l32_10, hy, hl0, h6, l32_10, l64_10, l64_48, i64mul, i64add, i64sub, i64of32, ev, mL_mL]
    · rw [if_neg cl] at hl0
      have ew : nmb b n (f + 1) a v = (a, v) := if_neg cl
      rw [ew]
      refine ⟨V, ?_, hV⟩
      unfold mf_60_135 mf_60_140 mf_60_143
      simp (disch := omega) only [ev_S, ev_P, ↓reduceIte, Nat.reduceEqDiff, Nat.reduceLeDiff, Nat.reduceAdd, Nat.reduceMul, Nat.reduceSub, reduceCtorEq, l32_0, l32_1, l32_2, l32_3, l32_4, l32_5, l32_6, l32_7, l32_8, l32_9, l32_10, hy, hl0]
end WRD
