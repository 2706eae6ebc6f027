/-! ===== PURE: out, a byte and a number ===== -/
abbrev nb (c : Int32) : Int32 := vp_nar (zz_ty 2) (Int8.toInt32 (Int32.toInt8 c))
theorem nb_fits (c : Int32) : fits .byte (.int (nb c)) = true := nar_fits _
theorem nb_10 : ∀ d : Fin 10, nb (Int32.ofNat (48 + d.1)) = Int32.ofNat (48 + d.1) := by decide
theorem nb_dg (w : Nat) : nb (dg w) = dg w := nb_10 ⟨w % 10, Nat.mod_lt _ (by decide)⟩
/-- the lengths that the class's kept bytes may have -/
def kl (L : Nat) : Prop := L = 64 ∨ L = 128 ∨ L = 256 ∨ L = 512 ∨ L = 600
/-- the class's out: the bytes l -/
def cOut (t : cS) (l : List Int32) : Prop := kI t 45 1 = Int32.ofNat l.length ∧ (∀ i (hi : i < l.length), i < 600 → (kA t 46).2 i = l[i]) ∧ (∀ i, fits .byte (.int ((kA t 46).2 i)) = true) ∧ (l.length ≤ (kA t 46).1 ∨ (kA t 46).1 = 600) ∧ kl (kA t 46).1 ∧ (kA t 47).1 = 10 ∧ rmK t
def rOut (s : mS) (l : List Int32) : Prop := s.1 87 = Int32.ofNat l.length ∧ (∀ i (hi : i < l.length), i < 600 → s.2.2.1 86 i = l[i])
/-- what telling leaves -/
def ofr (t t' : cS) : Prop := (∀ k f, ¬ (k = 45 ∧ f = 1) → kI t' k f = kI t k f) ∧ kL t' = kL t ∧ kP t' = kP t ∧ (∀ k, k ≠ 46 → k ≠ 47 → k ≠ 111 → kA t' k = kA t k ∧ kB t' k = kB t k ∧ kD t' k = kD t k) ∧ kM t' = kM t ∧ kH t' = kH t ∧ kN t ≤ kN t' ∧ kN t' + pot t ≤ kN t + pot t' ∧ kQ t' + poq t ≤ kQ t + poq t'
theorem ofr.rf {t : cS} : ofr t t := ⟨fun _ _ _ => rfl, rfl, rfl, fun _ _ _ _ => ⟨rfl, rfl, rfl⟩, rfl, rfl, Nat.le_refl _, Nat.le_refl _, Nat.le_refl _⟩
theorem ofr.tr {t t1 t2 : cS} (h : ofr t t1) (g : ofr t1 t2) : ofr t t2 := by
  obtain ⟨a1, a2, a3, a4, a5, a6, a8, a9, a10⟩ := h
  obtain ⟨b1, b2, b3, b4, b5, b6, b8, b9, b10⟩ := g
  exact ⟨fun k f r => (b1 k f r).trans (a1 k f r), b2.trans a2, b3.trans a3, fun k r1 r2 r3 => ⟨(b4 k r1 r2 r3).1.trans (a4 k r1 r2 r3).1, (b4 k r1 r2 r3).2.1.trans (a4 k r1 r2 r3).2.1, (b4 k r1 r2 r3).2.2.trans (a4 k r1 r2 r3).2.2⟩, b5.trans a5, b6.trans a6, by omega, by omega, by omega⟩
abbrev oM (s s' : mS) : Prop := mfr (fun q => q = 87) (fun _ => False) (fun q => q = 86) (fun _ => False) s s'
section OUT
variable {N : Nat} {X : Nat → Option zz_C} {t : cS} {s : mS} {l : List Int32}
theorem get_app {v : Int32} {g : Nat → Int32} (h : ∀ i (hi : i < l.length), i < 600 → g i = l[i]) (hv : l.length < 600 → g l.length = v) : ∀ i (hi : i < (l ++ [v]).length), i < 600 → g i = (l ++ [v])[i] := fun i hi h6 => by
  rw [List.length_append] at hi
  have hi : i < l.length + 1 := hi
  by_cases c : i < l.length
  · rw [List.getElem_append_left c]
    exact h i c h6
  · have e : i = l.length := by omega
    subst e
    rw [hv h6, List.getElem_append_right (Nat.le_refl _)]
    simp only [Nat.sub_self, List.getElem_cons_zero]
theorem upd_fits {f : Nat → Int32} {i : Nat} {c : Int32} (h : ∀ i, fits .byte (.int (f i)) = true) : ∀ j, fits .byte (.int (upd f i (nb c) j)) = true := fun j => by
  unfold upd
  split
  · exact nb_fits c
  · exact h j
theorem fits0 : fits .byte (.int 0) = true := by decide
theorem c_says {c : Int32} (h : cOut t l) (hl : l.length < 2000000000) : ∃ t', cf_171 N X c t = some (t', .inl none) ∧ cOut t' (l ++ [nb c]) ∧ ofr t t' ∧ kA t' 47 = kA t 47 := by
  obtain ⟨h1, h2, h3, h4, h5, h6, h7⟩ := h
  have ll : (l ++ [nb c]).length = l.length + 1 := List.length_append
  by_cases c6 : 600 ≤ l.length
  · refine ⟨jI t 45 1 (Int32.ofNat (l.length + 1)), ?_, ⟨by rw [ll]; rfl, get_app h2 (fun q => by omega), h3, ?_, h5, h6, h7⟩, ⟨fun k f r => if_neg r, rfl, rfl, fun _ _ _ _ => ⟨rfl, rfl, rfl⟩, rfl, rfl, Nat.le_refl _, Nat.le_refl _, Nat.le_refl _⟩, rfl⟩
    · repeat ((first | unfold cf_171 | unfold cf_171_0 | unfold cf_171_10 | unfold cf_171_22 | unfold cf_171_45 | unfold cf_171_56); try simp (disch := omega) only [ev_S, ev_C, ↓reduceIte, Nat.reduceEqDiff, Nat.reduceLeDiff, Nat.reduceAdd, Nat.reduceMul, Nat.reduceSub, reduceCtorEq, l32_0, l32_1, l32_2, l32_3, l32_4, l32_45, l32_46, l32_600, h1])
    · rcases h5 with e | e | e | e | e <;> rw [ll] <;> (show l.length + 1 ≤ (kA t 46).1 ∨ (kA t 46).1 = 600) <;> omega
  · by_cases c2 : l.length < (kA t 46).1
    · have hk6 : (kA t 46).1 ≤ 600 := by rcases h5 with e | e | e | e | e <;> omega
      refine ⟨jI (jA t 46 (upd (kA t 46).2 l.length (nb c))) 45 1 (Int32.ofNat (l.length + 1)), ?_, ⟨by rw [ll]; rfl, get_app (fun i hi h6 => ?_) (fun _ => if_pos rfl), upd_fits h3, by rw [ll]; exact Or.inl c2, h5, h6, h7⟩, ⟨fun k f r => if_neg r, rfl, rfl, fun k r1 r2 r3 => ⟨if_neg r1, rfl, rfl⟩, rfl, rfl, Nat.le_refl _, Nat.le_refl _, Nat.le_refl _⟩, rfl⟩
      · repeat ((first | unfold cf_171 | unfold cf_171_0 | unfold cf_171_10 | unfold cf_171_22 | unfold cf_171_45 | unfold cf_171_56); try simp (disch := omega) only [ev_S, ev_C, ↓reduceIte, Nat.reduceEqDiff, Nat.reduceLeDiff, Nat.reduceAdd, Nat.reduceMul, Nat.reduceSub, reduceCtorEq, l32_0, l32_1, l32_2, l32_3, l32_4, l32_45, l32_46, l32_600, h1])
      · show upd (kA t 46).2 l.length (nb c) i = _
        rw [upd_n (by omega)]
        exact h2 i hi h6
    · have hk : (kA t 46).1 = l.length := by omega
      obtain ⟨L, hL⟩ : ∃ L, L = (if 600 < 2 * l.length then 600 else 2 * l.length) := ⟨_, rfl⟩
      have hL1 : kl L ∧ l.length < L ∧ (kA t 46).1 / 64 + 1 ≤ L / 64 ∧ L + 17 * (kA t 46).1 ≤ 17 * L := by
        unfold kl at h5 ⊢
        rw [hk] at h5 ⊢
        split at hL <;> (rcases h5 with e | e | e | e | e <;> omega)
      obtain ⟨g1, g2, g3, g4⟩ := hL1
      have hk9 := h7.k
      have h9a := h7.1
      unfold pot at h9a
      have g5 : L ≤ 600 := by rcases g1 with e | e | e | e | e <;> omega
      have hm : Nat.min l.length L = l.length := Nat.min_eq_left (by omega)
      have ei : (if Int32.ofNat 600 < Int32.ofNat (2 * l.length) then Int32.ofNat 600 else Int32.ofNat (2 * l.length)) = Int32.ofNat L := by
        rw [hL]
        by_cases q : 600 < 2 * l.length
        · rw [if_pos ((i32lt (by omega) (by omega)).mpr q), if_pos q]
        · rw [if_neg (fun z => q ((i32lt (by omega) (by omega)).mp z)), if_neg q]
      have hb : zz_bts (kA t 46).2 0 l.length = true := bts_of h3 _
      refine ⟨jI (jA (jMv (jNI t 3 L (kcp 0 (kA t 46).2 l.length)) 46) 46 (upd (kcp 0 (kA t 46).2 l.length) l.length (nb c))) 45 1 (Int32.ofNat (l.length + 1)), ?_, ⟨by rw [ll]; rfl, get_app (fun i hi h6 => ?_) (fun _ => if_pos rfl), upd_fits (fun i => ?_), by rw [ll]; exact Or.inl g2, g1, h6, ?_⟩, ⟨fun k f r => if_neg r, rfl, rfl, fun k r1 r2 r3 => ⟨?_, ?_, ?_⟩, rfl, rfl, ?_, ?_, ?_⟩, rfl⟩
      · unfold cf_171 cf_171_0
        rw [h1, if_neg (fun q => by have := (i32le (a := 600) (by decide) (by omega)).mp q; omega)]
        unfold cf_171_10
        rw [h1, hk, if_neg (fun q => by have := (i32lt (by omega) (by omega)).mp q; omega)]
        unfold cf_171_22
        rw [h1, show (2 : Int32) * Int32.ofNat l.length = Int32.ofNat (2 * l.length) from i32ml, show (600 : Int32) = Int32.ofNat 600 from rfl, ei, hk, i32c (m := L) (by omega), hm, if_pos ⟨i32n (by omega), by omega, by omega, fun q => by have := (i32eq (by omega) (by omega)).mp q; omega, by omega, hb⟩]
        unfold cf_171_45 cf_171_56
        simp (disch := omega) only [ev_S, ev_C, ↓reduceIte, Nat.reduceEqDiff, Nat.reduceLeDiff, Nat.reduceAdd, Nat.reduceMul, Nat.reduceSub, reduceCtorEq, l32_0, l32_1, l32_2, l32_3, l32_4, l32_5, l32_6, l32_7, l32_8, l32_9, l32_10, h1]
      · show upd (kcp 0 (kA t 46).2 l.length) l.length (nb c) i = _
        rw [upd_n (by omega), kcp_lt hi]
        exact h2 i hi h6
      · by_cases q : i < l.length
        · rw [kcp_lt q]
          exact h3 i
        · have : kcp 0 (kA t 46).2 l.length i = 0 := by
            unfold kcp va_cpy
            rw [if_neg (by omega)]
          rw [this]
          exact fits0
      · refine ⟨?_, g5⟩
        show kN t + 1 + 200 < zz_out + (lgc (kB t 43).1 + lgc (kB t 44).1 + L / 64 + lgc (kB t 52).1 + lgc (kA t 55).1 + lgc (kA t 56).1 + lgc (kA t 57).1)
        omega
      · show (if k = 46 then _ else (if k = 46 then _ else (if k = 111 then _ else kA t k))) = _
        rw [if_neg r1, if_neg r1, if_neg r3]
      · show (if k = 46 then _ else kB t k) = _
        rw [if_neg r1]
      · show (if k = 46 then _ else (if k = 111 then _ else kD t k)) = _
        rw [if_neg r1, if_neg r3]
      · show kN t ≤ kN t + 1
        omega
      · show kN t + 1 + pot t ≤ kN t + (lgc (kB t 43).1 + lgc (kB t 44).1 + L / 64 + lgc (kB t 52).1 + lgc (kA t 55).1 + lgc (kA t 56).1 + lgc (kA t 57).1)
        unfold pot
        omega
      · show kQ t + L + poq t ≤ kQ t + (2 * (kB t 43).1 + 2 * (kB t 44).1 + 17 * L + 2 * (kB t 52).1 + 2 * (kA t 55).1 + 2 * (kA t 56).1 + 2 * (kA t 57).1)
        unfold poq
        omega
theorem r_says {c : Int32} (h : rOut s l) (hl : l.length < 2000000000) : ∃ s', mf_348 N c s = some (s', none) ∧ rOut s' (l ++ [nb c]) ∧ oM s s' := by
  obtain ⟨h1, h2⟩ := h
  have ll : (l ++ [nb c]).length = l.length + 1 := List.length_append
  by_cases c6 : 600 ≤ l.length
  · refine ⟨mI s 87 (Int32.ofNat (l.length + 1)), ?_, ⟨by rw [ll]; rfl, get_app h2 (fun q => by omega)⟩, ⟨fun q r => if_neg r, fun _ _ => rfl, fun _ _ => rfl, fun _ _ => rfl⟩⟩
    repeat ((first | unfold mf_348 | unfold mf_348_0 | unfold mf_348_10 | unfold mf_348_21); try simp (disch := omega) only [ev_S, ev_P, ↓reduceIte, Nat.reduceEqDiff, Nat.reduceLeDiff, Nat.reduceAdd, Nat.reduceMul, Nat.reduceSub, reduceCtorEq, l32_0, l32_1, l32_2, l32_3, l32_4, l32_600, h1])
  · refine ⟨mI (mA s 86 (upd (s.2.2.1 86) l.length (nb c))) 87 (Int32.ofNat (l.length + 1)), ?_, ⟨by rw [ll]; rfl, get_app (fun i hi h6 => ?_) (fun _ => if_pos rfl)⟩, ⟨fun q r => if_neg r, fun _ _ => rfl, fun q r => if_neg r, fun _ _ => rfl⟩⟩
    · repeat ((first | unfold mf_348 | unfold mf_348_0 | unfold mf_348_10 | unfold mf_348_21); try simp (disch := omega) only [ev_S, ev_P, ↓reduceIte, Nat.reduceEqDiff, Nat.reduceLeDiff, Nat.reduceAdd, Nat.reduceMul, Nat.reduceSub, reduceCtorEq, l32_0, l32_1, l32_2, l32_3, l32_4, l32_600, h1])
    · show upd (s.2.2.1 86) l.length (nb c) i = _
      rw [upd_n (by omega)]
      exact h2 i hi h6
end OUT
