/-! ===== printed by wip/whole/gen12.py: the model's memory ===== -/
def mLen : Nat → Nat := fun i => match i with
  | 0 => 1510
  | 1 => 1510
  | 2 => 64
  | 3 => 60
  | 4 => 110
  | 5 => 4
  | 6 => 10
  | 7 => 96
  | 8 => 100
  | 9 => 9
  | 10 => 9
  | 11 => 216
  | 12 => 24
  | 13 => 5
  | 14 => 5
  | 15 => 20
  | _ => 1510
def mFld (r : Nat) (m : Nat → Nat → Int) : List GV := [gR (r + 1), gR (r + 2), gR (r + 3), gR (r + 4), gR (r + 5), gR (r + 6), gI (m 17 6), gI (m 17 7), gR (r + 7), gR (r + 8), gR (r + 9), gI (m 17 11), gI (m 17 12), gI (m 17 13), gI (m 17 14), gI (m 17 15), gI (m 17 16), gI (m 17 17), gI (m 17 18), gI (m 17 19), gI (m 17 20), gR (r + 10), gR (r + 11), gR (r + 12), gR (r + 13), gR (r + 14), gR (r + 15), gR (r + 16), gR (r + 17)]
/-- the model at r: m 0 .. m 16 are its rows, m 17 its numbers (by their fields' places) -/
def MOD (F : Nat → GC) (r : Nat) (m : Nat → Nat → Int) : Prop := F r = cO 7 (mFld r m) ∧ ∀ i : Nat, i < 17 → F (r + 1 + i) = cI (mLen i) (m i)
def FR (r : Nat) (F F' : Nat → GC) : Prop := ∀ k : Nat, ¬ (r ≤ k ∧ k < r + 18) → F' k = F k
theorem FR.rf {r : Nat} {F : Nat → GC} : FR r F F := fun _ _ => rfl
theorem FR.tr {r : Nat} {F F1 F2 : Nat → GC} (h1 : FR r F F1) (h2 : FR r F1 F2) : FR r F F2 := fun k hk => (h2 k hk).trans (h1 k hk)
theorem FR.put {r a : Nat} {F F1 : Nat → GC} {c : GC} (h : FR r F F1) (h1 : r ≤ a) (h2 : a < r + 18) : FR r F (va_up F1 a c) := by
  intro k hk
  rw [va_up_ne _ _ (by omega)]
  exact h k hk
theorem MOD.put {F : Nat → GC} {r : Nat} {m : Nat → Nat → Int} (h : MOD F r m) (i : Nat) (hi : i < 17) (f : Nat → Int) : MOD (va_up F (r + 1 + i) (cI (mLen i) f)) r (va_up m i f) := by
  refine ⟨?_, fun j hj => ?_⟩
  · rw [va_up_ne _ _ (by omega), h.1]
    have e : va_up m i f 17 = m 17 := va_up_ne _ _ (by omega)
    unfold mFld
    rw [e]
  · by_cases e : j = i
    · subst e; rw [va_up_self, va_up_self]
    · rw [va_up_ne _ _ (by omega), va_up_ne _ _ e]; exact h.2 j hj
theorem MOD.arrays {F : Nat → GC} {r : Nat} {m : Nat → Nat → Int} (h : MOD F r m) (c : GC) {i : Nat} (hi : i < 17) : va_up F r c (r + 1 + i) = cI (mLen i) (m i) := by
  rw [va_up_ne _ _ (by omega)]; exact h.2 i hi
theorem MOD.a0 {F : Nat → GC} {r : Nat} {m : Nat → Nat → Int} (h : MOD F r m) : F (r + 1) = cI 1510 (m 0) := by have := h.2 0 (by omega); rwa [show r + 1 + 0 = r + 1 by omega] at this
theorem MOD.p0 {F : Nat → GC} {r : Nat} {m : Nat → Nat → Int} (h : MOD F r m) (f : Nat → Int) : MOD (va_up F (r + 1) (cI 1510 f)) r (va_up m 0 f) := by have := h.put 0 (by omega) f; rwa [show r + 1 + 0 = r + 1 by omega] at this
theorem MOD.a1 {F : Nat → GC} {r : Nat} {m : Nat → Nat → Int} (h : MOD F r m) : F (r + 2) = cI 1510 (m 1) := by have := h.2 1 (by omega); rwa [show r + 1 + 1 = r + 2 by omega] at this
theorem MOD.p1 {F : Nat → GC} {r : Nat} {m : Nat → Nat → Int} (h : MOD F r m) (f : Nat → Int) : MOD (va_up F (r + 2) (cI 1510 f)) r (va_up m 1 f) := by have := h.put 1 (by omega) f; rwa [show r + 1 + 1 = r + 2 by omega] at this
theorem MOD.a2 {F : Nat → GC} {r : Nat} {m : Nat → Nat → Int} (h : MOD F r m) : F (r + 3) = cI 64 (m 2) := by have := h.2 2 (by omega); rwa [show r + 1 + 2 = r + 3 by omega] at this
theorem MOD.p2 {F : Nat → GC} {r : Nat} {m : Nat → Nat → Int} (h : MOD F r m) (f : Nat → Int) : MOD (va_up F (r + 3) (cI 64 f)) r (va_up m 2 f) := by have := h.put 2 (by omega) f; rwa [show r + 1 + 2 = r + 3 by omega] at this
theorem MOD.a3 {F : Nat → GC} {r : Nat} {m : Nat → Nat → Int} (h : MOD F r m) : F (r + 4) = cI 60 (m 3) := by have := h.2 3 (by omega); rwa [show r + 1 + 3 = r + 4 by omega] at this
theorem MOD.p3 {F : Nat → GC} {r : Nat} {m : Nat → Nat → Int} (h : MOD F r m) (f : Nat → Int) : MOD (va_up F (r + 4) (cI 60 f)) r (va_up m 3 f) := by have := h.put 3 (by omega) f; rwa [show r + 1 + 3 = r + 4 by omega] at this
theorem MOD.a4 {F : Nat → GC} {r : Nat} {m : Nat → Nat → Int} (h : MOD F r m) : F (r + 5) = cI 110 (m 4) := by have := h.2 4 (by omega); rwa [show r + 1 + 4 = r + 5 by omega] at this
theorem MOD.p4 {F : Nat → GC} {r : Nat} {m : Nat → Nat → Int} (h : MOD F r m) (f : Nat → Int) : MOD (va_up F (r + 5) (cI 110 f)) r (va_up m 4 f) := by have := h.put 4 (by omega) f; rwa [show r + 1 + 4 = r + 5 by omega] at this
theorem MOD.a5 {F : Nat → GC} {r : Nat} {m : Nat → Nat → Int} (h : MOD F r m) : F (r + 6) = cI 4 (m 5) := by have := h.2 5 (by omega); rwa [show r + 1 + 5 = r + 6 by omega] at this
theorem MOD.p5 {F : Nat → GC} {r : Nat} {m : Nat → Nat → Int} (h : MOD F r m) (f : Nat → Int) : MOD (va_up F (r + 6) (cI 4 f)) r (va_up m 5 f) := by have := h.put 5 (by omega) f; rwa [show r + 1 + 5 = r + 6 by omega] at this
theorem MOD.a6 {F : Nat → GC} {r : Nat} {m : Nat → Nat → Int} (h : MOD F r m) : F (r + 7) = cI 10 (m 6) := by have := h.2 6 (by omega); rwa [show r + 1 + 6 = r + 7 by omega] at this
theorem MOD.p6 {F : Nat → GC} {r : Nat} {m : Nat → Nat → Int} (h : MOD F r m) (f : Nat → Int) : MOD (va_up F (r + 7) (cI 10 f)) r (va_up m 6 f) := by have := h.put 6 (by omega) f; rwa [show r + 1 + 6 = r + 7 by omega] at this
theorem MOD.a7 {F : Nat → GC} {r : Nat} {m : Nat → Nat → Int} (h : MOD F r m) : F (r + 8) = cI 96 (m 7) := by have := h.2 7 (by omega); rwa [show r + 1 + 7 = r + 8 by omega] at this
theorem MOD.p7 {F : Nat → GC} {r : Nat} {m : Nat → Nat → Int} (h : MOD F r m) (f : Nat → Int) : MOD (va_up F (r + 8) (cI 96 f)) r (va_up m 7 f) := by have := h.put 7 (by omega) f; rwa [show r + 1 + 7 = r + 8 by omega] at this
theorem MOD.a8 {F : Nat → GC} {r : Nat} {m : Nat → Nat → Int} (h : MOD F r m) : F (r + 9) = cI 100 (m 8) := by have := h.2 8 (by omega); rwa [show r + 1 + 8 = r + 9 by omega] at this
theorem MOD.p8 {F : Nat → GC} {r : Nat} {m : Nat → Nat → Int} (h : MOD F r m) (f : Nat → Int) : MOD (va_up F (r + 9) (cI 100 f)) r (va_up m 8 f) := by have := h.put 8 (by omega) f; rwa [show r + 1 + 8 = r + 9 by omega] at this
theorem MOD.a9 {F : Nat → GC} {r : Nat} {m : Nat → Nat → Int} (h : MOD F r m) : F (r + 10) = cI 9 (m 9) := by have := h.2 9 (by omega); rwa [show r + 1 + 9 = r + 10 by omega] at this
theorem MOD.p9 {F : Nat → GC} {r : Nat} {m : Nat → Nat → Int} (h : MOD F r m) (f : Nat → Int) : MOD (va_up F (r + 10) (cI 9 f)) r (va_up m 9 f) := by have := h.put 9 (by omega) f; rwa [show r + 1 + 9 = r + 10 by omega] at this
theorem MOD.a10 {F : Nat → GC} {r : Nat} {m : Nat → Nat → Int} (h : MOD F r m) : F (r + 11) = cI 9 (m 10) := by have := h.2 10 (by omega); rwa [show r + 1 + 10 = r + 11 by omega] at this
theorem MOD.p10 {F : Nat → GC} {r : Nat} {m : Nat → Nat → Int} (h : MOD F r m) (f : Nat → Int) : MOD (va_up F (r + 11) (cI 9 f)) r (va_up m 10 f) := by have := h.put 10 (by omega) f; rwa [show r + 1 + 10 = r + 11 by omega] at this
theorem MOD.a11 {F : Nat → GC} {r : Nat} {m : Nat → Nat → Int} (h : MOD F r m) : F (r + 12) = cI 216 (m 11) := by have := h.2 11 (by omega); rwa [show r + 1 + 11 = r + 12 by omega] at this
theorem MOD.p11 {F : Nat → GC} {r : Nat} {m : Nat → Nat → Int} (h : MOD F r m) (f : Nat → Int) : MOD (va_up F (r + 12) (cI 216 f)) r (va_up m 11 f) := by have := h.put 11 (by omega) f; rwa [show r + 1 + 11 = r + 12 by omega] at this
theorem MOD.a12 {F : Nat → GC} {r : Nat} {m : Nat → Nat → Int} (h : MOD F r m) : F (r + 13) = cI 24 (m 12) := by have := h.2 12 (by omega); rwa [show r + 1 + 12 = r + 13 by omega] at this
theorem MOD.p12 {F : Nat → GC} {r : Nat} {m : Nat → Nat → Int} (h : MOD F r m) (f : Nat → Int) : MOD (va_up F (r + 13) (cI 24 f)) r (va_up m 12 f) := by have := h.put 12 (by omega) f; rwa [show r + 1 + 12 = r + 13 by omega] at this
theorem MOD.a13 {F : Nat → GC} {r : Nat} {m : Nat → Nat → Int} (h : MOD F r m) : F (r + 14) = cI 5 (m 13) := by have := h.2 13 (by omega); rwa [show r + 1 + 13 = r + 14 by omega] at this
theorem MOD.p13 {F : Nat → GC} {r : Nat} {m : Nat → Nat → Int} (h : MOD F r m) (f : Nat → Int) : MOD (va_up F (r + 14) (cI 5 f)) r (va_up m 13 f) := by have := h.put 13 (by omega) f; rwa [show r + 1 + 13 = r + 14 by omega] at this
theorem MOD.a14 {F : Nat → GC} {r : Nat} {m : Nat → Nat → Int} (h : MOD F r m) : F (r + 15) = cI 5 (m 14) := by have := h.2 14 (by omega); rwa [show r + 1 + 14 = r + 15 by omega] at this
theorem MOD.p14 {F : Nat → GC} {r : Nat} {m : Nat → Nat → Int} (h : MOD F r m) (f : Nat → Int) : MOD (va_up F (r + 15) (cI 5 f)) r (va_up m 14 f) := by have := h.put 14 (by omega) f; rwa [show r + 1 + 14 = r + 15 by omega] at this
theorem MOD.a15 {F : Nat → GC} {r : Nat} {m : Nat → Nat → Int} (h : MOD F r m) : F (r + 16) = cI 20 (m 15) := by have := h.2 15 (by omega); rwa [show r + 1 + 15 = r + 16 by omega] at this
theorem MOD.p15 {F : Nat → GC} {r : Nat} {m : Nat → Nat → Int} (h : MOD F r m) (f : Nat → Int) : MOD (va_up F (r + 16) (cI 20 f)) r (va_up m 15 f) := by have := h.put 15 (by omega) f; rwa [show r + 1 + 15 = r + 16 by omega] at this
theorem MOD.a16 {F : Nat → GC} {r : Nat} {m : Nat → Nat → Int} (h : MOD F r m) : F (r + 17) = cI 1510 (m 16) := by have := h.2 16 (by omega); rwa [show r + 1 + 16 = r + 17 by omega] at this
theorem MOD.p16 {F : Nat → GC} {r : Nat} {m : Nat → Nat → Int} (h : MOD F r m) (f : Nat → Int) : MOD (va_up F (r + 17) (cI 1510 f)) r (va_up m 16 f) := by have := h.put 16 (by omega) f; rwa [show r + 1 + 16 = r + 17 by omega] at this
theorem MOD.f6 {F : Nat → GC} {r : Nat} {m : Nat → Nat → Int} (h : MOD F r m) (x : Int) : MOD (va_up F r (cO 7 ((mFld r m).set 6 (gI x)))) r (va_up m 17 (va_up (m 17) 6 x)) := by
  refine ⟨?_, fun i hi => ?_⟩
  · rw [va_up_self]; rfl
  · rw [h.arrays _ hi, va_up_ne _ _ (show i ≠ 17 by omega)]
theorem MOD.f7 {F : Nat → GC} {r : Nat} {m : Nat → Nat → Int} (h : MOD F r m) (x : Int) : MOD (va_up F r (cO 7 ((mFld r m).set 7 (gI x)))) r (va_up m 17 (va_up (m 17) 7 x)) := by
  refine ⟨?_, fun i hi => ?_⟩
  · rw [va_up_self]; rfl
  · rw [h.arrays _ hi, va_up_ne _ _ (show i ≠ 17 by omega)]
theorem MOD.f11 {F : Nat → GC} {r : Nat} {m : Nat → Nat → Int} (h : MOD F r m) (x : Int) : MOD (va_up F r (cO 7 ((mFld r m).set 11 (gI x)))) r (va_up m 17 (va_up (m 17) 11 x)) := by
  refine ⟨?_, fun i hi => ?_⟩
  · rw [va_up_self]; rfl
  · rw [h.arrays _ hi, va_up_ne _ _ (show i ≠ 17 by omega)]
theorem MOD.f12 {F : Nat → GC} {r : Nat} {m : Nat → Nat → Int} (h : MOD F r m) (x : Int) : MOD (va_up F r (cO 7 ((mFld r m).set 12 (gI x)))) r (va_up m 17 (va_up (m 17) 12 x)) := by
  refine ⟨?_, fun i hi => ?_⟩
  · rw [va_up_self]; rfl
  · rw [h.arrays _ hi, va_up_ne _ _ (show i ≠ 17 by omega)]
theorem MOD.f13 {F : Nat → GC} {r : Nat} {m : Nat → Nat → Int} (h : MOD F r m) (x : Int) : MOD (va_up F r (cO 7 ((mFld r m).set 13 (gI x)))) r (va_up m 17 (va_up (m 17) 13 x)) := by
  refine ⟨?_, fun i hi => ?_⟩
  · rw [va_up_self]; rfl
  · rw [h.arrays _ hi, va_up_ne _ _ (show i ≠ 17 by omega)]
theorem MOD.f14 {F : Nat → GC} {r : Nat} {m : Nat → Nat → Int} (h : MOD F r m) (x : Int) : MOD (va_up F r (cO 7 ((mFld r m).set 14 (gI x)))) r (va_up m 17 (va_up (m 17) 14 x)) := by
  refine ⟨?_, fun i hi => ?_⟩
  · rw [va_up_self]; rfl
  · rw [h.arrays _ hi, va_up_ne _ _ (show i ≠ 17 by omega)]
theorem MOD.f15 {F : Nat → GC} {r : Nat} {m : Nat → Nat → Int} (h : MOD F r m) (x : Int) : MOD (va_up F r (cO 7 ((mFld r m).set 15 (gI x)))) r (va_up m 17 (va_up (m 17) 15 x)) := by
  refine ⟨?_, fun i hi => ?_⟩
  · rw [va_up_self]; rfl
  · rw [h.arrays _ hi, va_up_ne _ _ (show i ≠ 17 by omega)]
theorem MOD.f16 {F : Nat → GC} {r : Nat} {m : Nat → Nat → Int} (h : MOD F r m) (x : Int) : MOD (va_up F r (cO 7 ((mFld r m).set 16 (gI x)))) r (va_up m 17 (va_up (m 17) 16 x)) := by
  refine ⟨?_, fun i hi => ?_⟩
  · rw [va_up_self]; rfl
  · rw [h.arrays _ hi, va_up_ne _ _ (show i ≠ 17 by omega)]
theorem MOD.f17 {F : Nat → GC} {r : Nat} {m : Nat → Nat → Int} (h : MOD F r m) (x : Int) : MOD (va_up F r (cO 7 ((mFld r m).set 17 (gI x)))) r (va_up m 17 (va_up (m 17) 17 x)) := by
  refine ⟨?_, fun i hi => ?_⟩
  · rw [va_up_self]; rfl
  · rw [h.arrays _ hi, va_up_ne _ _ (show i ≠ 17 by omega)]
theorem MOD.f18 {F : Nat → GC} {r : Nat} {m : Nat → Nat → Int} (h : MOD F r m) (x : Int) : MOD (va_up F r (cO 7 ((mFld r m).set 18 (gI x)))) r (va_up m 17 (va_up (m 17) 18 x)) := by
  refine ⟨?_, fun i hi => ?_⟩
  · rw [va_up_self]; rfl
  · rw [h.arrays _ hi, va_up_ne _ _ (show i ≠ 17 by omega)]
theorem MOD.f19 {F : Nat → GC} {r : Nat} {m : Nat → Nat → Int} (h : MOD F r m) (x : Int) : MOD (va_up F r (cO 7 ((mFld r m).set 19 (gI x)))) r (va_up m 17 (va_up (m 17) 19 x)) := by
  refine ⟨?_, fun i hi => ?_⟩
  · rw [va_up_self]; rfl
  · rw [h.arrays _ hi, va_up_ne _ _ (show i ≠ 17 by omega)]
theorem MOD.f20 {F : Nat → GC} {r : Nat} {m : Nat → Nat → Int} (h : MOD F r m) (x : Int) : MOD (va_up F r (cO 7 ((mFld r m).set 20 (gI x)))) r (va_up m 17 (va_up (m 17) 20 x)) := by
  refine ⟨?_, fun i hi => ?_⟩
  · rw [va_up_self]; rfl
  · rw [h.arrays _ hi, va_up_ne _ _ (show i ≠ 17 by omega)]
def SB (l : List Nat) (m m' : Nat → Nat → Int) : Prop := ∀ i : Nat, i ∉ l → m' i = m i
theorem SB.rf {l : List Nat} {m : Nat → Nat → Int} : SB l m m := fun _ _ => rfl
theorem SB.tr {l : List Nat} {m m1 m2 : Nat → Nat → Int} (h1 : SB l m m1) (h2 : SB l m1 m2) : SB l m m2 := fun i hi => (h2 i hi).trans (h1 i hi)
theorem SB.mono {l l' : List Nat} {m m' : Nat → Nat → Int} (h : SB l m m') (hs : ∀ i ∈ l, i ∈ l') : SB l' m m' := fun i hi => h i (fun h => hi (hs i h))
theorem SB.put {l : List Nat} {m m' : Nat → Nat → Int} {i : Nat} {f : Nat → Int} (h : SB l m m') (hi : i ∈ l) : SB l m (va_up m' i f) := by
  intro j hj
  rw [va_up_ne _ _ (fun e => hj (by rw [e]; exact hi))]
  exact h j hj
/-- behind a method of the model: its answer, its own row as S, the rows that l does not name as they were -/
def MP (N r : Nat) (F : Nat → GC) (m : Nat → Nat → Int) (v : GV) (S : Nat → Int) (l : List Nat) : GV → GM → Prop := fun rr M' => rr = v ∧ ∃ (F' : Nat → GC) (m' : Nat → Nat → Int), M' = (N, F') ∧ MOD F' r m' ∧ FR r F F' ∧ m' 0 = S ∧ SB (0 :: l) m m'
