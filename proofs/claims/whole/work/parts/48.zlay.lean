/-! ===== a text laid down keeps the row well formed ===== -/
theorem zpar_pcs {B : Nat → Int} {n : Nat} (key : Nat) : ∀ (f q o t : Nat) (R : ZR), R.pcs ≤ (zpar B n key f q o t R).pcs ∧ (q ≤ 5 → (zpar B n key f q o t R).ok = true → R.pcs < (zpar B n key f q o t R).pcs) := by
  intro f
  induction f with
  | zero =>
    intro q o t R
    unfold zpar
    exact ⟨Nat.le_refl _, fun _ h => by simp [ZR.bad, ZR.ok] at h⟩
  | succ f ih =>
    intro q o t R
    have bad : R.pcs ≤ R.bad.pcs ∧ (q ≤ 5 → R.bad.ok = true → R.pcs < R.bad.pcs) := ⟨Nat.le_refl _, fun _ h => by simp [ZR.bad, ZR.ok] at h⟩
    have hnp : (R.nx B n).pcs = R.pcs := rfl
    unfold zpar
    split
    · have h1 := ih (q + 1) o t R
      split
      · rename_i c1 c2
        have h2 := ih (q + 6) o t (zpar B n key f (q + 1) o t R)
        have h3 := h1.2 (by omega) c2
        exact ⟨by omega, fun _ _ => by omega⟩
      · rename_i c1 c2
        exact ⟨h1.1, fun _ h => absurd h c2⟩
    · split
      · have op : ∀ c : Int, R.pcs ≤ (((R.put c).one).nx B n).pcs ∧ (q ≤ 5 → (((R.put c).one).nx B n).ok = true → R.pcs < (((R.put c).one).nx B n).pcs) := by
          intro c
          have e : (((R.put c).one).nx B n).pcs = R.pcs + 1 := rfl
          rw [e]
          exact ⟨by omega, fun _ _ => by omega⟩
        split
        · split
          · exact op _
          · exact bad
        · split
          · split
            · exact op _
            · exact bad
          · split
            · split
              · exact bad
              · have h1 := ih 5 o (t + 1) (R.nx B n)
                rw [hnp] at h1
                exact ⟨h1.1, fun _ h => h1.2 (by omega) h⟩
            · split
              · split
                · exact bad
                · have h1 := ih 0 (o + 1) t (R.nx B n)
                  rw [hnp] at h1
                  split
                  · rename_i c6
                    exact ⟨h1.1, fun _ _ => h1.2 (by omega) c6.1⟩
                  · exact ⟨h1.1, fun _ h => by simp [ZR.bad, ZR.ok] at h⟩
              · exact bad
      · split
        · have h1 := ih (q - 5) o t (R.nx B n)
          rw [hnp] at h1
          have e2 : ∀ c : Int, ((zpar B n key f (q - 5) o t (R.nx B n)).put c).pcs = (zpar B n key f (q - 5) o t (R.nx B n)).pcs := fun _ => rfl
          split
          · have h2 := ih q o t ((zpar B n key f (q - 5) o t (R.nx B n)).put (-10 - B R.fr))
            rw [e2] at h2
            exact ⟨by omega, fun _ _ => by omega⟩
          · rw [e2]
            exact ⟨h1.1, fun _ _ => by omega⟩
        · exact ⟨Nat.le_refl _, fun _ _ => by omega⟩
theorem zprs_pcs {B : Nat → Int} {n : Nat} (hB : BYT B n) (h : (zprs B n).ok = true) : 1 ≤ (zprs B n).pcs := by
  have e := (zprs_ok hB h).2.1
  rw [e] at h ⊢
  have := (zpar_pcs (B := B) (n := n) (zkey B (zR0 B n)).toNat 800 0 0 0 ((zR0 B n).nx B n)).2 (by omega) h
  have e0 : ((zR0 B n).nx B n).pcs = 0 := rfl
  rw [e0] at this
  exact this
theorem zcpy_hit {s : Nat → Int} {b : Nat} {l : List Int} : ∀ {n i : Nat}, i < n → zcpy s b l n (b + i) = l.getD i 0
  | 0, _, h => absurd h (Nat.not_lt_zero _)
  | n + 1, i, h => by
    show va_up (zcpy s b l n) (b + n) (l.getD n 0) (b + i) = l.getD i 0
    by_cases e : i = n
    · subst e; rw [va_up_self]
    · rw [va_up_ne _ _ (by omega)]; exact zcpy_hit (by omega)
theorem zcpy_miss {s : Nat → Int} {b : Nat} {l : List Int} : ∀ {n j : Nat}, (j < b ∨ b + n ≤ j) → zcpy s b l n j = s j
  | 0, _, _ => rfl
  | n + 1, j, h => by
    show va_up (zcpy s b l n) (b + n) (l.getD n 0) j = s j
    rw [va_up_ne _ _ (by omega)]
    exact zcpy_miss (by omega)
theorem zlay_lo {s : Nat → Int} {key : Nat} {R : ZR} {j : Nat} (h : j < 64) : zlay s key R j = s j := by
  unfold zlay
  rw [zcpy_miss (by omega)]
  unfold zlay0
  rw [va_up_ne _ _ (by omega), va_up_ne _ _ (by omega), va_up_ne _ _ (by omega), va_up_ne _ _ (by omega), va_up_ne _ _ (by omega)]
theorem zlay_W {s : Nat → Int} {key : Nat} {R : ZR} (h : zW s) : zW (zlay s key R) := zW_cong (fun _ hk => zlay_lo hk) h
theorem zlay_T {s : Nat → Int} {key : Nat} {R : ZR} (hT : zT s) (h14 : ¬ s 64 = 14) (hk : key < 3) (hl : 1 ≤ R.out.length ∧ R.out.length ≤ 96) (hp : 1 ≤ R.pcs ∧ R.pcs ≤ 96) (hv : zvl (if key = 0 then 4 else 2) 0 R.out) (hd : zdl 0 R.out = 1) : zT (zlay s key R) := by
  obtain ⟨t1, t2, t3, t4⟩ := hT
  generalize ht : (s 64).toNat = t
  have et : s 64 = (t : Int) := by omega
  have z0 : zlay s key R = zcpy (va_up (va_up (va_up (va_up (va_up s 64 ((t : Int) + 1)) (65 + key) (t : Int)) (68 + t) key) (82 + t) (R.out.length : Nat)) (96 + t) (R.pcs : Nat)) (110 + 100 * t) R.out R.out.length := by unfold zlay zlay0; rw [ht, et]
  have lo : ∀ j : Nat, j < 110 → zlay s key R j = va_up (va_up (va_up (va_up (va_up s 64 ((t : Int) + 1)) (65 + key) (t : Int)) (68 + t) key) (82 + t) (R.out.length : Nat)) (96 + t) (R.pcs : Nat) j := fun j hj => by rw [z0, zcpy_miss (by omega)]
  have e64 : zlay s key R 64 = (t : Int) + 1 := by
    rw [lo 64 (by omega), va_up_ne _ _ (by omega), va_up_ne _ _ (by omega), va_up_ne _ _ (by omega), va_up_ne _ _ (by omega), va_up_self]
  have e65 : zlay s key R (65 + key) = (t : Int) := by
    rw [lo _ (by omega), va_up_ne _ _ (by omega), va_up_ne _ _ (by omega), va_up_ne _ _ (by omega), va_up_self]
  have e65' : ∀ w : Nat, w < 3 → w ≠ key → zlay s key R (65 + w) = s (65 + w) := fun w h1 h2 => by
    rw [lo _ (by omega), va_up_ne _ _ (by omega), va_up_ne _ _ (by omega), va_up_ne _ _ (by omega), va_up_ne _ _ (by omega), va_up_ne _ _ (by omega)]
  have e68 : zlay s key R (68 + t) = key := by
    rw [lo _ (by omega), va_up_ne _ _ (by omega), va_up_ne _ _ (by omega), va_up_self]
  have e68' : ∀ x : Nat, x < t → zlay s key R (68 + x) = s (68 + x) := fun x h1 => by
    rw [lo _ (by omega), va_up_ne _ _ (by omega), va_up_ne _ _ (by omega), va_up_ne _ _ (by omega), va_up_ne _ _ (by omega), va_up_ne _ _ (by omega)]
  have e82 : zlay s key R (82 + t) = (R.out.length : Nat) := by
    rw [lo _ (by omega), va_up_ne _ _ (by omega), va_up_self]
  have e82' : ∀ x : Nat, x < t → zlay s key R (82 + x) = s (82 + x) := fun x h1 => by
    rw [lo _ (by omega), va_up_ne _ _ (by omega), va_up_ne _ _ (by omega), va_up_ne _ _ (by omega), va_up_ne _ _ (by omega), va_up_ne _ _ (by omega)]
  have e96 : zlay s key R (96 + t) = (R.pcs : Nat) := by
    rw [lo _ (by omega), va_up_self]
  have e96' : ∀ x : Nat, x < t → zlay s key R (96 + x) = s (96 + x) := fun x h1 => by
    rw [lo _ (by omega), va_up_ne _ _ (by omega), va_up_ne _ _ (by omega), va_up_ne _ _ (by omega), va_up_ne _ _ (by omega), va_up_ne _ _ (by omega)]
  have hi : ∀ k : Nat, k < R.out.length → zlay s key R (110 + 100 * t + k) = R.out.getD k 0 := fun k hk => by rw [z0, zcpy_hit hk]
  have hi' : ∀ x k : Nat, x < t → k < 100 → zlay s key R (110 + 100 * x + k) = s (110 + 100 * x + k) := fun x k h1 h2 => by
    rw [z0, zcpy_miss (by omega), va_up_ne _ _ (by omega), va_up_ne _ _ (by omega), va_up_ne _ _ (by omega), va_up_ne _ _ (by omega), va_up_ne _ _ (by omega)]
  generalize zlay s key R = u at *
  unfold zT
  rw [e64]
  refine ⟨by omega, fun w hw => ?_, fun w hw h0 => ?_, fun x hx => ?_⟩
  · by_cases e : w = key
    · rw [e, e65]; omega
    · rw [e65' w hw e]; have := t2 w hw; omega
  · by_cases e : w = key
    · rw [e, e65, show ((t : Int)).toNat = t by omega, e68]
    · rw [e65' w hw e] at h0 ⊢
      have := t2 w hw
      rw [e68' _ (by omega)]
      exact t3 w hw h0
  · by_cases e : x = t
    · subst e
      rw [e68, e82, e96]
      refine ⟨by omega, by omega, by omega, ?_⟩
      rw [show ((R.out.length : Nat) : Int).toNat = R.out.length by omega]
      refine zvl_wf (fun k hk => hi k hk) ?_ hd
      by_cases c : key = 0
      · rw [if_pos c] at hv; rw [if_pos (by omega)]; exact hv
      · rw [if_neg c] at hv; rw [if_neg (by omega)]; exact hv
    · have hxt : x < t := by omega
      have := t4 x (by omega)
      rw [e68' x hxt, e82' x hxt, e96' x hxt]
      exact ⟨this.1, this.2.1, this.2.2.1, zwf_cong (fun i hi2 => hi' x i hxt (by omega)) this.2.2.2⟩
