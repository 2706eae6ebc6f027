/-! ===== PURE: run (83): the reference's side of the picture ===== -/
abbrev iRn : Nat → Prop := fun q => q = 48 ∨ q = 51 ∨ (55 ≤ q ∧ q ≤ 57) ∨ (60 ≤ q ∧ q ≤ 70 ∧ ¬ q = 68) ∨ q = 73 ∨ q = 79 ∨ q = 87
abbrev aRn : Nat → Prop := fun q => q = 47 ∨ (49 ≤ q ∧ q ≤ 54) ∨ q = 58 ∨ q = 59 ∨ q = 71 ∨ q = 72 ∨ (74 ≤ q ∧ q ≤ 78) ∨ (80 ≤ q ∧ q ≤ 86)
/-- what a run may change, before its end -/
def fRn (s s' : mS) : Prop := mfr iRn (fun q => q = 89) aRn (fun _ => False) s s' ∧ ∀ y, y < 154240 → s'.2.2.1 47 y = s.2.2.1 47 y
def RB (s0 s : mS) (h : Nat) (code : List Ins) (Fs : List Fn) (fu : Nat) (T : Ty) (out : List Int32) : Prop := rEv s h code Fs ∧ rTy s fu T ∧ (s.1 66 = Int32.ofNat 0 ∧ s.1 67 = -Int32.ofNat 1) ∧ rOut s out ∧ fRn s0 s
section RBK
variable {N : Nat} {s0 s s' : mS} {f f' h fu n : Nat} {code : List Ins} {Fs : List Fn} {T : Ty} {out : List Int32} {F F' : List Fm} {sh sh' : Nat → Option Nod} {a b : Fm} {o : Option Nod} {k v : Int32} {g g' : Nat → Int32}
theorem fRn.tr {s1 : mS} (a : fRn s s') (b : fRn s' s1) : fRn s s1 := ⟨mfr.tr a.1 b.1, fun y hy => (b.2 y hy).trans (a.2 y hy)⟩
theorem rvo.up (H : rvo g f k v o) (hf : f ≤ f') (hh : ∀ y, y < f → g' y = g y) : rvo g' f' k v o := by
  cases o with
  | none => exact H
  | some x => exact rvl.up H hf hh
theorem wayP.up {v : Int32 × Int32 × Int32 × Int32 × Int32 × Int32} {x : It × Nat × Nat} (H : wayP g f h code v x) (hf : f ≤ f') (hh : ∀ y, y < f → g' y = g y) : wayP g' f' h code v x := by
  obtain ⟨h1, h2, h3⟩ := H
  have up : ∀ {a : Nat} {y : Nod}, LayN g (Rf f) a y → LayN g' (Rf f') a y := fun {a y} q => LayN.congr (fun _ z => ⟨Nat.lt_of_lt_of_le z.1 hf, z.2⟩) (fun y z => hh y z.1) q
  refine ⟨fun q => ?_, h2, fun q => ?_⟩
  · obtain ⟨a1, a2, a3⟩ := h1 q
    refine ⟨a1, a2, fun y hy => ⟨(a3 y hy).1, fun z => ?_⟩⟩
    obtain ⟨b, b1, b2, b3⟩ := (a3 y hy).2 z
    exact ⟨b, b1, up b2, b3⟩
  · obtain ⟨a1, a2, a3, a4⟩ := h3 q
    refine ⟨a1, a2, a3, fun rs y hy => ?_⟩
    obtain ⟨b, b1, b2, b3⟩ := a4 rs y hy
    exact ⟨b, b1, up b2, b3⟩
/-- the calls' tables -/
theorem rFr.up (h74 : ∀ q, 74 ≤ q → q ≤ 78 → s'.2.2.1 q = s.2.2.1 q) (hf : f ≤ f') (hh : ∀ y, y < f → s'.2.2.1 47 y = s.2.2.1 47 y) : ∀ {F : List Fm}, rFr s f h code F → rFr s' f' h code F
  | [], _ => trivial
  | a :: F, H => by
    obtain ⟨h1, h2, h3, h4, h5⟩ := H
    refine ⟨?_, ?_, ?_, fun i hi => ?_, rFr.up h74 hf hh h5⟩
    · rw [h74 74 (by omega) (by omega)]; exact h1
    · rw [h74 75 (by omega) (by omega)]; exact h2
    · rw [h74 76 (by omega) (by omega)]; exact h3
    · rw [h74 77 (by omega) (by omega), h74 78 (by omega) (by omega)]
      exact (h4 i hi).up hf hh
/-- the innermost call's variables and place are another's: its tables serve -/
theorem rFr.hd (hv : b.2.2.1 = a.2.2.1) (H : rFr s f h code (a :: F)) : rFr s f h code (b :: F) := by
  obtain ⟨h1, h2, h3, h4, h5⟩ := H
  exact ⟨h1, h2, h3, fun i hi => by rw [hv]; exact h4 i hi, h5⟩
/-- the reference's part, with another stack: its ways as they were -/
theorem RM0.mv (H : RM0 s f h code (a :: F) sh) (hA : ∀ q, q = 71 ∨ q = 72 ∨ (74 ≤ q ∧ q ≤ 78) ∨ (80 ≤ q ∧ q ≤ 85) → s'.2.2.1 q = s.2.2.1 q) (h73 : s'.1 73 = s.1 73) (h79 : s'.1 79 = s.1 79) (hf : f ≤ f') (hh : ∀ y, y < f → s'.2.2.1 47 y = s.2.2.1 47 y) (h48 : s'.1 48 = Int32.ofNat f') (hs : stk (fun v x => rvl (s'.2.2.1 47) f' v.1 v.2 x) (fun i => (s'.2.2.1 49 i, s'.2.2.1 50 i)) (rStk (b :: F))) (hv : b.2.2.1 = a.2.2.1) (hw : wStk (b :: F) = wStk (a :: F)) : RM0 s' f' h code (b :: F) sh := by
  obtain ⟨a1, a2, a3, a4, a5, a6, a7, a8⟩ := H
  refine ⟨hs, rFr.up (fun q q1 q2 => hA q (by omega)) hf hh (rFr.hd hv a2), ?_, fun i hi => ?_, LayN.congr (fun _ z => ⟨Nat.lt_of_lt_of_le z.1 hf, z.2⟩) (fun y z => hh y z.1) a5, ?_, ?_, h48⟩
  · rw [hw, hA 80 (by omega), hA 81 (by omega), hA 82 (by omega), hA 83 (by omega), hA 84 (by omega), hA 85 (by omega)]
    exact a3.mono (fun _ _ _ z => z.up hf hh) (fun _ _ => rfl)
  · rw [hA 71 (by omega), hA 72 (by omega)]
    exact (a4 i hi).up hf hh
  · rw [h73]; exact a6
  · rw [h79, hw]; exact a7
theorem rEv.keep (H : rEv s h code Fs) (hA : ∀ q, 17 ≤ q → q ≤ 27 → s'.2.2.1 q = s.2.2.1 q) : rEv s' h code Fs := by
  obtain ⟨a1, a2, a3⟩ := H
  unfold rEv rPg rFp
  rw [hA 23 (by omega) (by omega), hA 24 (by omega) (by omega), hA 25 (by omega) (by omega), hA 26 (by omega) (by omega), hA 27 (by omega) (by omega), hA 20 (by omega) (by omega), hA 18 (by omega) (by omega), hA 19 (by omega) (by omega), hA 17 (by omega) (by omega)]
  exact ⟨a1, a2, a3⟩
theorem RB.keep (H : RB s0 s h code Fs fu T out) (g : fRn s s') (hI : ∀ q, (60 ≤ q ∧ q ≤ 64) ∨ q = 66 ∨ q = 67 ∨ q = 87 → s'.1 q = s.1 q) (h86 : s'.2.2.1 86 = s.2.2.1 86) : RB s0 s' h code Fs fu T out := by
  obtain ⟨a1, a2, a3, a4, a5⟩ := H
  refine ⟨a1.keep (fun q q1 q2 => g.1.2.2.1 q (by unfold aRn; omega)), ?_, ?_, a4.ch (hI 87 (by omega)) h86, a5.tr g⟩
  · unfold rTy
    rw [hI 61 (by omega), hI 60 (by omega), hI 62 (by omega), hI 63 (by omega), hI 64 (by omega)]
    exact a2
  · rw [hI 66 (by omega), hI 67 (by omega)]
    exact a3
/-- one step more -/
theorem RB.st (H : RB s0 s h code Fs fu T out) : RB s0 (mI s 60 (Int32.ofNat (T.1 + 1))) h code Fs fu (T.1 + 1, T.2) out := by
  obtain ⟨a1, ⟨b1, b2, b3, b4, b5⟩, a3, a4, a5⟩ := H
  refine ⟨a1.keep (fun _ _ _ => rfl), ⟨b1, rfl, b3, b4, b5⟩, a3, a4.ch rfl rfl, a5.tr ⟨⟨fun q r => if_neg (by unfold iRn at r; omega), fun _ _ => rfl, fun _ _ => rfl, fun _ _ => rfl⟩, fun _ _ => rfl⟩⟩
theorem fRn.I {q : Nat} {z : Int32} (hq : iRn q) : fRn s (mI s q z) := ⟨⟨fun k r => if_neg (fun (e : k = q) => r (by rw [e]; exact hq)), fun _ _ => rfl, fun _ _ => rfl, fun _ _ => rfl⟩, fun _ _ => rfl⟩
theorem RB.I {q : Nat} {z : Int32} (H : RB s0 s h code Fs fu T out) (hq : q = 48 ∨ q = 51 ∨ q = 65 ∨ (69 ≤ q ∧ q ≤ 70) ∨ q = 73 ∨ q = 79) : RB s0 (mI s q z) h code Fs fu T out := H.keep (fRn.I (by unfold iRn; omega)) (fun k r => if_neg (by omega)) rfl
end RBK
