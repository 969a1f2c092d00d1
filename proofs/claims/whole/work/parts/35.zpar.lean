/-! ===== the parser as a function ===== -/
/-- from k on, past the places that hold p, at most f of them -/
def zsc (p : Nat → Bool) : Nat → Nat → Nat
  | 0, k => k
  | f + 1, k => if p k then zsc p f (k + 1) else k
theorem zsc_step {p : Nat → Bool} {n : Nat} (hp : ∀ k, n ≤ k → p k = false) (k : Nat) : zsc p (n - k) k = if p k then zsc p (n - (k + 1)) (k + 1) else k := by
  by_cases c : k < n
  · rw [show n - k = (n - (k + 1)) + 1 by omega]; rfl
  · rw [show n - k = 0 by omega, hp k (by omega)]; rfl
theorem zsc_ge (p : Nat → Bool) : ∀ f k, k ≤ zsc p f k ∧ zsc p f k ≤ k + f
  | 0, k => ⟨Nat.le_refl _, Nat.le_refl _⟩
  | f + 1, k => by
    have := zsc_ge p f (k + 1)
    unfold zsc
    split <;> omega
theorem zsc_all (p : Nat → Bool) : ∀ f k j, k ≤ j → j < zsc p f k → p j = true
  | 0, k, j, h1, h2 => by unfold zsc at h2; omega
  | f + 1, k, j, h1, h2 => by
    unfold zsc at h2
    split at h2
    · by_cases e : j = k
      · subst e; assumption
      · exact zsc_all p f (k + 1) j (by omega) h2
    · omega
def zs0 (c : Int) : Nat := if c < 0 then 0 else if 97 ≤ c ∧ c ≤ 122 then 1 else if 48 ≤ c ∧ c ≤ 57 then 2 else 3
/-- the bytes: n of them, then -1 -/
def BYT (B : Nat → Int) (n : Nat) : Prop := n ≤ 96 ∧ (∀ k : Nat, k < n → 0 ≤ B k ∧ B k ≤ 255) ∧ ∀ k : Nat, n ≤ k → B k = -1
def zfr (B : Nat → Int) (n to : Nat) : Nat := zsc (fun k => decide (B k = 32)) (n - to) to
def zmor (B : Nat → Int) (q : Nat) (k : Nat) : Bool := decide ((q = 1 ∧ zs0 (B k) = 1) ∨ (q = 2 ∧ zs0 (B k) = 2))
def zto (B : Nat → Int) (n fr : Nat) : Nat := if B fr < 0 then fr else zsc (zmor B (zs0 (B fr))) (n - (fr + 1)) (fr + 1)
def zso (B : Nat → Int) (to so fr : Nat) : Nat := if (zs0 (B fr) = 1 ∨ zs0 (B fr) = 2) ∧ (so = 1 ∨ so = 2) ∧ fr = to then 4 else zs0 (B fr)
/-- where the word looked at begins, where it ends, its sort; what is written; operands; whether all was good -/
abbrev ZR : Type := Nat × Nat × Nat × List Int × Nat × Bool
def ZR.fr (R : ZR) : Nat := R.1
def ZR.to (R : ZR) : Nat := R.2.1
def ZR.so (R : ZR) : Nat := R.2.2.1
def ZR.out (R : ZR) : List Int := R.2.2.2.1
def ZR.pcs (R : ZR) : Nat := R.2.2.2.2.1
def ZR.ok (R : ZR) : Bool := R.2.2.2.2.2
def ZR.nx (R : ZR) (B : Nat → Int) (n : Nat) : ZR := (zfr B n R.to, zto B n (zfr B n R.to), zso B R.to R.so (zfr B n R.to), R.out, R.pcs, R.ok)
def ZR.put (R : ZR) (c : Int) : ZR := (R.fr, R.to, R.so, R.out ++ [c], R.pcs, R.ok)
def ZR.bad (R : ZR) : ZR := (R.fr, R.to, R.so, R.out, R.pcs, false)
def ZR.one (R : ZR) : ZR := (R.fr, R.to, R.so, R.out, R.pcs + 1, R.ok)
/-- the word or sign looked at lies within the text -/
def ZR.wf (R : ZR) (n : Nat) : Prop := R.fr ≤ R.to ∧ R.to ≤ n ∧ (R.so ≠ 0 → R.fr < R.to) ∧ R.so ≤ 4
theorem zs0_le (c : Int) : zs0 c ≤ 3 := by unfold zs0; grind
theorem ZR.nx_wf {B : Nat → Int} {n : Nat} (hB : BYT B n) {R : ZR} (h : R.wf n) : (R.nx B n).wf n ∧ R.to ≤ (R.nx B n).fr := by
  have h1 := zsc_ge (fun k => decide (B k = 32)) (n - R.to) R.to
  have hl := zs0_le (B (zfr B n R.to))
  have hz : B (zfr B n R.to) < 0 → zs0 (B (zfr B n R.to)) = 0 := fun h => by unfold zs0; rw [if_pos h]
  have hfr : R.to ≤ zfr B n R.to ∧ zfr B n R.to ≤ n := by unfold zfr; exact ⟨h1.1, by have := h.2.1; omega⟩
  have h2 := zsc_ge (zmor B (zs0 (B (zfr B n R.to)))) (n - (zfr B n R.to + 1)) (zfr B n R.to + 1)
  have hneg : ¬ B (zfr B n R.to) < 0 → zfr B n R.to < n := fun c => by
    by_cases c2 : zfr B n R.to < n
    · exact c2
    · exact absurd (by rw [hB.2.2 _ (by omega)]; omega) c
  have e0 : (R.nx B n).fr = zfr B n R.to := rfl
  have e1 : (R.nx B n).to = zto B n (zfr B n R.to) := rfl
  have e2 : (R.nx B n).so = zso B R.to R.so (zfr B n R.to) := rfl
  refine ⟨⟨?_, ?_, ?_, ?_⟩, hfr.1⟩
  · rw [e0, e1]; unfold zto; split <;> omega
  · rw [e1]; unfold zto; split
    · omega
    · rename_i c; have := hneg c; omega
  · rw [e0, e1, e2]
    unfold zto zso
    intro h3
    split
    · rename_i c
      rw [if_neg (by rw [hz c]; omega), hz c] at h3
      exact absurd rfl h3
    · omega
  · rw [e2]; unfold zso; split <;> omega
def znameI (key : Nat) (c : Int) : Int := if key = 0 then (if c = 103 then 0 else if c = 97 then 1 else if c = 121 then 2 else if c = 110 then 3 else -1) else if key = 1 then (if c = 104 then 0 else if c = 98 then 1 else -1) else (if c = 103 then 0 else if c = 115 then 1 else -1)
def znum (B : Nat → Int) (fr : Nat) : Nat → Int
  | 0 => 0
  | k + 1 => 10 * znum B fr k + B (fr + k) - 48
def zopd (l : Nat) (c : Int) : Bool := if l = 0 then decide (c = 124) else if l = 1 then decide (c = 38) else if l = 2 then decide (c = 60 ∨ c = 61 ∨ c = 62) else if l = 3 then decide (c = 43 ∨ c = 45) else decide (c = 42 ∨ c = 47)
/-- q < 5: the level q; 5: a piece; 6 + q: more of the level q -/
def zpar (B : Nat → Int) (n key : Nat) : Nat → Nat → Nat → Nat → ZR → ZR
  | 0, _, _, _, R => R.bad
  | f + 1, q, o, t, R =>
    if q < 5 then (if (zpar B n key f (q + 1) o t R).ok then zpar B n key f (q + 6) o t (zpar B n key f (q + 1) o t R) else zpar B n key f (q + 1) o t R)
    else if q = 5 then
      (if R.so = 2 then (if R.to - R.fr ≤ 4 then ((R.put (znum B R.fr (R.to - R.fr))).one).nx B n else R.bad)
      else if R.so = 1 then (if R.to = R.fr + 1 ∧ 0 ≤ znameI key (B R.fr) then ((R.put (-1 - znameI key (B R.fr))).one).nx B n else R.bad)
      else if R.so = 3 ∧ B R.fr = 33 then (if t = 8 then R.bad else (zpar B n key f 5 o (t + 1) (R.nx B n)).put (-43))
      else if R.so = 3 ∧ B R.fr = 40 then (if o = 8 then R.bad else
        (if (zpar B n key f 0 (o + 1) t (R.nx B n)).ok = true ∧ (zpar B n key f 0 (o + 1) t (R.nx B n)).so = 3 ∧ B (zpar B n key f 0 (o + 1) t (R.nx B n)).fr = 41 then (zpar B n key f 0 (o + 1) t (R.nx B n)).nx B n else (zpar B n key f 0 (o + 1) t (R.nx B n)).bad))
      else R.bad)
    else (if R.so = 3 ∧ zopd (q - 6) (B R.fr) = true then
        (if (zpar B n key f (q - 5) o t (R.nx B n)).ok ∧ q ≠ 8 then zpar B n key f q o t ((zpar B n key f (q - 5) o t (R.nx B n)).put (-10 - B R.fr)) else (zpar B n key f (q - 5) o t (R.nx B n)).put (-10 - B R.fr))
      else R)
/-- what every step of the parser keeps -/
def ZR.go (R : ZR) (n q : Nat) (R2 : ZR) : Prop := R2.wf n ∧ R.fr ≤ R2.fr ∧ (q ≤ 5 → R2.ok = true → R.fr < R2.fr) ∧ R2.out.length + R.fr ≤ R.out.length + R2.fr ∧ R2.pcs + R.fr ≤ R.pcs + R2.fr
theorem zpar_go {B : Nat → Int} {n : Nat} (hB : BYT B n) (key : Nat) : ∀ (f q o t : Nat) (R : ZR), R.wf n → R.ok = true → R.go n q (zpar B n key f q o t R) := by
  intro f
  induction f with
  | zero =>
    intro q o t R hw hk
    unfold zpar ZR.go
    exact ⟨hw, Nat.le_refl _, fun _ h => by simp [ZR.bad, ZR.ok] at h, Nat.le_refl _, Nat.le_refl _⟩
  | succ f ih =>
    intro q o t R hw hk
    have bad : R.go n q R.bad := ⟨hw, Nat.le_refl _, fun _ h => by simp [ZR.bad, ZR.ok] at h, Nat.le_refl _, Nat.le_refl _⟩
    obtain ⟨hnw, hnf⟩ := ZR.nx_wf hB hw
    have hnk : (R.nx B n).ok = true := hk
    have hno : (R.nx B n).out = R.out := rfl
    have hnp : (R.nx B n).pcs = R.pcs := rfl
    unfold zpar
    split
    · have h1 := ih (q + 1) o t R hw hk
      split
      · rename_i c1 c2
        have h2 := ih (q + 6) o t _ h1.1 c2
        unfold ZR.go at h1 h2 ⊢
        have := h1.2.2.1 (by omega) c2
        exact ⟨h2.1, by omega, fun _ _ => by omega, by omega, by omega⟩
      · unfold ZR.go at h1 ⊢
        exact ⟨h1.1, h1.2.1, fun _ h => by simp_all, by omega, by omega⟩
    · split
      · have op : ∀ c : Int, R.so ≠ 0 → R.go n q (((R.put c).one).nx B n) := by
          intro c h0
          have hw2 : ((R.put c).one).wf n := hw
          obtain ⟨h1, h2⟩ := ZR.nx_wf hB hw2
          have h3 := hw.2.2.1 h0
          have h4 : R.to ≤ (((R.put c).one).nx B n).fr := h2
          refine ⟨h1, by omega, fun _ _ => by omega, ?_, ?_⟩
          · show (R.out ++ [c]).length + R.fr ≤ _
            rw [List.length_append, List.length_singleton]
            omega
          · show R.pcs + 1 + R.fr ≤ _
            omega
        split
        · split
          · exact op _ (by omega)
          · exact bad
        · split
          · split
            · exact op _ (by omega)
            · exact bad
          · split
            · rename_i c3
              split
              · exact bad
              · have h1 := ih 5 o (t + 1) _ hnw hnk
                have h3 := hw.2.2.1 (by omega)
                unfold ZR.go at h1 ⊢
                refine ⟨h1.1, ?_, fun _ _ => ?_, ?_, ?_⟩
                · show R.fr ≤ (zpar B n key f 5 o (t + 1) (R.nx B n)).fr
                  omega
                · show R.fr < (zpar B n key f 5 o (t + 1) (R.nx B n)).fr
                  omega
                · show ((zpar B n key f 5 o (t + 1) (R.nx B n)).out ++ [-43]).length + R.fr ≤ _ + (zpar B n key f 5 o (t + 1) (R.nx B n)).fr
                  rw [List.length_append, List.length_singleton]
                  rw [hno] at h1
                  omega
                · show (zpar B n key f 5 o (t + 1) (R.nx B n)).pcs + R.fr ≤ _ + (zpar B n key f 5 o (t + 1) (R.nx B n)).fr
                  rw [hnp] at h1
                  omega
            · split
              · rename_i c3 c4
                split
                · exact bad
                · have h1 := ih 0 (o + 1) t _ hnw hnk
                  have h3 := hw.2.2.1 (by omega)
                  generalize zpar B n key f 0 (o + 1) t (R.nx B n) = R1 at h1 ⊢
                  unfold ZR.go at h1 ⊢
                  rw [hno, hnp] at h1
                  split
                  · obtain ⟨h5, h6⟩ := ZR.nx_wf hB h1.1
                    have h7 := h1.1.1
                    have e1 : (R1.nx B n).out = R1.out := rfl
                    have e2 : (R1.nx B n).pcs = R1.pcs := rfl
                    rw [e1, e2]
                    exact ⟨h5, by omega, fun _ _ => by omega, by omega, by omega⟩
                  · refine ⟨h1.1, ?_, fun _ h => by simp [ZR.bad, ZR.ok] at h, ?_, ?_⟩
                    · show R.fr ≤ R1.fr
                      omega
                    · show R1.out.length + R.fr ≤ R.out.length + R1.fr
                      omega
                    · show R1.pcs + R.fr ≤ R.pcs + R1.fr
                      omega
              · exact bad
      · split
        · rename_i c1 c2 c3
          have h1 := ih (q - 5) o t _ hnw hnk
          have h3 := hw.2.2.1 (by omega)
          generalize zpar B n key f (q - 5) o t (R.nx B n) = R1 at h1 ⊢
          have e1 : (R1.put (-10 - B R.fr)).out.length = R1.out.length + 1 := by show (R1.out ++ [_]).length = _; rw [List.length_append, List.length_singleton]
          have e2 : (R1.put (-10 - B R.fr)).pcs = R1.pcs := rfl
          have e3 : (R1.put (-10 - B R.fr)).fr = R1.fr := rfl
          split
          · rename_i c4
            have h2 := ih q o t (R1.put (-10 - B R.fr)) h1.1 c4.1
            generalize zpar B n key f q o t (R1.put (-10 - B R.fr)) = R2 at h2 ⊢
            unfold ZR.go at h1 h2 ⊢
            rw [hno, hnp] at h1
            rw [e1, e2, e3] at h2
            exact ⟨h2.1, by omega, fun _ _ => by omega, by omega, by omega⟩
          · unfold ZR.go at h1 ⊢
            rw [hno, hnp] at h1
            rw [e1, e2, e3]
            exact ⟨h1.1, by omega, fun _ _ => by omega, by omega, by omega⟩
        · exact ⟨hw, Nat.le_refl _, fun h _ => by omega, Nat.le_refl _, Nat.le_refl _⟩
