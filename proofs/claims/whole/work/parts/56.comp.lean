/-! ===== the component whole ===== -/
theorem va_up_up {α : Type} (f : Nat → α) (k : Nat) (x z : α) : va_up (va_up f k x) k z = va_up f k z := by
  funext j
  by_cases q : j = k
  · subst q; rw [va_up_self, va_up_self]
  · rw [va_up_ne _ _ q, va_up_ne _ _ q, va_up_ne _ _ q]
def shR (i : Nat) : Option Nat := if i < 4 then some (57 + 2 * i) else none
def slR (i : Nat) : Option Nat := if i < 5 then some (65 + 4 * i) else none
theorem shR_at {i : Nat} (h : i < 4) : shR i = some (57 + 2 * i) := if_pos h
theorem slR_at {i : Nat} (h : i < 5) : slR i = some (65 + 4 * i) := if_pos h
/-- the sheet at a is the model's sheet k -/
def SHT (F : Nat → GC) (a k : Nat) (m : Nat → Nat → Int) : Prop := F a = cO 5 [gI (m 9 k), gI (m 10 k), gR (a + 1)] ∧ ∃ f, F (a + 1) = cI 24 f ∧ (¬ m 9 k < 0 → ∀ d : Nat, d < 24 → f d = m 11 (24 * k + d))
def SLT (F : Nat → GC) (k : Nat) (m : Nat → Nat → Int) : Prop := F (65 + 4 * k) = cO 6 [gI (m 13 k), gI (m 14 k), gR (66 + 4 * k), gR (67 + 4 * k)] ∧ (∃ f, F (66 + 4 * k) = cO 2 (g5 f) ∧ f 0 = m 15 (4 * k) ∧ f 1 = m 15 (4 * k + 1) ∧ f 2 = m 15 (4 * k + 2) ∧ f 4 = m 15 (4 * k + 3)) ∧ SHT F (67 + 4 * k) (4 + k) m
def RDR (F : Nat → GC) (m : Nat → Nat → Int) : Prop := (∃ x3 x4 x5 x6 x7 x8 : Int, F 49 = cO 4 [gR 50, gR 51, gI (m 17 11), gI x3, gI x4, gI x5, gI x6, gI x7, gI x8]) ∧ (∃ f, F 50 = cI 96 f ∧ ∀ k : Nat, k < 96 → f k = m 7 k) ∧ ∃ f, F 51 = cI 96 f
def RST (F : Nat → GC) (m : Nat → Nat → Int) : Prop := RDR F m ∧ F 52 = cR 5 4 shR ∧ F 53 = cR 6 5 slR ∧ (∃ f, F 54 = cI 60 f ∧ ∀ j : Nat, j < 60 → f j = m 3 j) ∧ (∃ f, F 55 = cI 100 f) ∧ (∃ f, F 56 = cI 10 f) ∧ (∀ k : Nat, k < 4 → SHT F (57 + 2 * k) k m) ∧ ∀ k : Nat, k < 5 → SLT F k m
abbrev aFld (m : Nat → Nat → Int) : List GV := [gR 1, gR 17, gR 33, gR 49, gR 52, gR 53, gR 54, gR 55, gR 56, gI (m 17 7), gI (m 17 6)]
def COMP (F : Nat → GC) (m : Nat → Nat → Int) : Prop := F 0 = cO 0 (aFld m) ∧ CTY F 1 (m 0) ∧ ((∃ s, CTY F 17 s) ∧ (¬ m 17 6 = 0 → CTY F 17 (m 1))) ∧ (∃ s, CTY F 33 s) ∧ RST F m
section COMPS
variable {F F2 : Nat → GC} {m U : Nat → Nat → Int}
theorem SHT.at {a k : Nat} (h : SHT F a k m) (h1 : F2 a = F a) (h2 : F2 (a + 1) = F (a + 1)) : SHT F2 a k m := by
  unfold SHT; rw [h1, h2]; exact h
theorem SLT.at {k : Nat} (h : SLT F k m) (h1 : ∀ j : Nat, 65 + 4 * k ≤ j → j < 69 + 4 * k → F2 j = F j) : SLT F2 k m := by
  obtain ⟨a, b, c⟩ := h
  refine ⟨by rw [h1 _ (by omega) (by omega)]; exact a, by rw [h1 _ (by omega) (by omega)]; exact b, c.at (h1 _ (by omega) (by omega)) (h1 _ (by omega) (by omega))⟩
theorem RST.at (h : RST F m) (h1 : ∀ j : Nat, 49 ≤ j → j < 85 → F2 j = F j) : RST F2 m := by
  obtain ⟨⟨a1, a2, a3⟩, b, c, d, e, f, s, t⟩ := h
  refine ⟨⟨by rw [h1 49 (by omega) (by omega)]; exact a1, by rw [h1 50 (by omega) (by omega)]; exact a2, by rw [h1 51 (by omega) (by omega)]; exact a3⟩, by rw [h1 52 (by omega) (by omega)]; exact b, by rw [h1 53 (by omega) (by omega)]; exact c, by rw [h1 54 (by omega) (by omega)]; exact d, by rw [h1 55 (by omega) (by omega)]; exact e, by rw [h1 56 (by omega) (by omega)]; exact f, fun k hk => (s k hk).at (h1 _ (by omega) (by omega)) (h1 _ (by omega) (by omega)), fun k hk => (t k hk).at (fun j j1 j2 => h1 j (by omega) (by omega))⟩
theorem COMP.now {S : Nat → Int} (h : COMP F m) (hC : CTY F2 1 S) (hF : FK (inC 1) F F2) : COMP F2 (va_up m 0 S) := by
  obtain ⟨a, b, ⟨⟨s1, c1⟩, c2⟩, ⟨s2, d⟩, e⟩ := h
  have hP : ∀ k, 103 ≤ k → ¬ inC 1 k := fun k hk q => by have := q.2; omega
  refine ⟨by rw [hF.at (by omega) (fun q => by have := q.1; omega)]; exact a, hC, ⟨⟨s1, c1.fk hF hP (fun k k1 k2 q => by have := q.2; omega) (by omega)⟩, fun q => (c2 q).fk hF hP (fun k k1 k2 q => by have := q.2; omega) (by omega)⟩, ⟨s2, d.fk hF hP (fun k k1 k2 q => by have := q.2; omega) (by omega)⟩, e.at (fun j j1 j2 => hF.at (by omega) (fun q => by have := q.2; omega))⟩
theorem COMP.tho {S : Nat → Int} (h : COMP F m) (hC : CTY F2 33 S) (hF : FK (inC 33) F F2) : COMP F2 m := by
  obtain ⟨a, b, ⟨⟨s1, c1⟩, c2⟩, ⟨s2, d⟩, e⟩ := h
  have hP : ∀ k, 103 ≤ k → ¬ inC 33 k := fun k hk q => by have := q.2; omega
  refine ⟨by rw [hF.at (by omega) (fun q => by have := q.1; omega)]; exact a, b.fk hF hP (fun k k1 k2 q => by have := q.1; omega) (by omega), ⟨⟨s1, c1.fk hF hP (fun k k1 k2 q => by have := q.1; omega) (by omega)⟩, fun q => (c2 q).fk hF hP (fun k k1 k2 q => by have := q.1; omega) (by omega)⟩, ⟨S, hC⟩, e.at (fun j j1 j2 => hF.at (by omega) (fun q => by have := q.2; omega))⟩
theorem COMP.fs (h : COMP F m) (hF : FS F F2) : COMP F2 m := by
  obtain ⟨a, b, ⟨⟨s1, c1⟩, c2⟩, ⟨s2, d⟩, e⟩ := h
  exact ⟨by rw [FS.at hF (by omega)]; exact a, b.fs hF (by omega), ⟨⟨s1, c1.fs hF (by omega)⟩, fun q => (c2 q).fs hF (by omega)⟩, ⟨s2, d.fs hF (by omega)⟩, e.at (fun j j1 j2 => FS.at hF (by omega))⟩
theorem COMP.eq (h : COMP F U) (e : EQ U m) : COMP F m := by
  unfold COMP RST RDR SLT SHT aFld at h ⊢
  rw [e.1 0 (by simp), e.1 1 (by simp), e.1 3 (by simp), e.1 7 (by simp), e.1 9 (by simp), e.1 10 (by simp), e.1 11 (by simp), e.1 13 (by simp), e.1 14 (by simp), e.1 15 (by simp), e.2 6 (by simp), e.2 7 (by simp), e.2 11 (by simp)]
  exact h
end COMPS
abbrev pA : Nat → Prop := fun k => k < 85
/-- behind a public call: its answer; the component is what U says; beyond it only the laws' stacks have changed -/
def CB (N : Nat) (F : Nat → GC) (v : GV) (U : Nat → Nat → Int) : GV → GM → Prop := fun rr M' => rr = v ∧ ∃ F2 : Nat → GC, M' = (N, F2) ∧ COMP F2 U ∧ FK pA F F2
theorem FK.a {P : Nat → Prop} {F F2 : Nat → GC} (h : FK P F F2) (hp : ∀ k, P k → k < 85) : FK pA F F2 := h.mono hp
theorem FK.c1 {F F2 : Nat → GC} (h : FK (inC 1) F F2) : FK pA F F2 := h.mono (fun k q => by have := q.2; show k < 85; omega)
theorem FK.c33 {F F2 : Nat → GC} (h : FK (inC 33) F F2) : FK pA F F2 := h.mono (fun k q => by have := q.2; show k < 85; omega)
theorem FS.a {F F2 : Nat → GC} (h : FS F F2) : FK pA F F2 := FK.mono h (fun _ q => False.elim q)
