/-! ===== what every call keeps ===== -/
def INV (m : Nat → Nat → Int) : Prop := (zW (m 0) ∧ zT (m 0) ∧ m 0 6 ≤ 9999) ∧ (¬ m 17 6 = 0 → zW (m 1) ∧ zT (m 1) ∧ m 1 6 ≤ 9999) ∧ mSh m ∧ mTp m ∧ 0 ≤ m 17 7 ∧ m 17 7 ≤ 60
section INVS
variable {m m' U : Nat → Nat → Int}
theorem INV.eq (h : INV U) (e : EQ U m') : INV m' := by
  unfold INV mSh mTp at h ⊢
  rw [e.1 0 (by simp), e.1 1 (by simp), e.1 9 (by simp), e.1 10 (by simp), e.1 7 (by simp), e.2 6 (by simp), e.2 7 (by simp), e.2 11 (by simp)]
  exact h
theorem INV.row (h : INV m) {S : Nat → Int} (h1 : zW S) (h2 : zT S) (h3 : S 6 ≤ 9999) : INV (va_up m 0 S) := ⟨⟨h1, h2, h3⟩, h.2⟩
theorem INV.goose (h : INV m) (k a b c : Int) : INV (va_up m 0 (u_goose (m 0) k a b c)) := by
  have ⟨⟨w, t, d⟩, _⟩ := h
  have w0 := w.1
  unfold u_goose
  split
  · rename_i c1
    refine h.row (zadd_W w (by omega) c1.1.1 c1.1.2.1 c1.1.2.2.1 c1.1.2.2.2) (zT_keep t (fun j hj => zadd_out _ _ _ _ _ (by omega) (by omega))) ?_
    rw [zadd_out _ _ _ _ _ (by omega) (by omega)]; exact d
  · exact h.row w t d
theorem INV.deal (h : INV m) (n : Int) : INV (va_up m 0 (u_deal (m 0) n)) := by
  have ⟨⟨w, t, d⟩, _⟩ := h
  have w0 := w.1
  unfold u_deal
  split
  · have hz : zdealt (m 0) n = min n.toNat (10 - (m 0 0).toNat) := rfl
    obtain ⟨a, -, c, e⟩ := zdeal_W w (zdealt (m 0) n) (by omega)
    exact h.row a (zT_keep t e) (by rw [c]; exact d)
  · exact h.row w t d
theorem INV.days (h : INV m) (n : Int) : INV (va_up m 0 (u_days (m 0) n)) := by
  have ⟨⟨w, t, d⟩, _⟩ := h
  have w6 := w.2.2.1
  unfold u_days
  split
  · have hz : z_left (m 0) n = (if n < 9999 - m 0 6 then n else 9999 - m 0 6).toNat := rfl
    have hle : m 0 6 + (z_left (m 0) n : Nat) ≤ 9999 := by rw [hz]; split <;> omega
    obtain ⟨a, b, c⟩ := zdays_W w (z_left (m 0) n) (by omega)
    exact h.row a (zT_keep t b.2.2.2.2.2) (by rw [c]; exact hle)
  · exact h.row w t d
theorem INV.text (h : INV m) : INV (u_text m) := by
  obtain ⟨⟨w, t, d⟩, k, sh, tp, q⟩ := h
  have hB := tp.byt
  unfold u_text
  have key : zW (if (mR m).ok = true ∧ ¬ m 0 64 = 14 then zlay (m 0) (mK m) (mR m) else m 0) ∧ zT (if (mR m).ok = true ∧ ¬ m 0 64 = 14 then zlay (m 0) (mK m) (mR m) else m 0) ∧ (if (mR m).ok = true ∧ ¬ m 0 64 = 14 then zlay (m 0) (mK m) (mR m) else m 0) 6 ≤ 9999 := by
    split
    · rename_i c
      obtain ⟨z1, -, z3, -, z5, z6, z7⟩ := zprs_ok hB c.1
      have kin := zkey_in (mB m) (zR0 (mB m) (m 17 11).toNat)
      refine ⟨zlay_W w, zlay_T t c.2 (by unfold mK; omega) z3 ⟨zprs_pcs hB c.1, z5⟩ z6 z7, ?_⟩
      rw [zlay_lo (by omega)]; exact d
    · exact ⟨w, t, d⟩
  exact ⟨key, k, sh, ⟨by show (0 : Int) ≤ 0; omega, by show (0 : Int) ≤ 96; omega, fun j hj => absurd hj (by show ¬ ((j : Int) < 0); omega)⟩, q⟩
theorem INV.trim (h : INV m) (k : Int) : INV (u_trim m k) := by
  unfold u_trim
  split
  · rename_i c
    obtain ⟨r, kp, sh, tp, q⟩ := h
    exact ⟨r, kp, sh, ⟨c.1, by show k ≤ 96; have := tp.2.1; omega, fun j hj => tp.2.2 j (by have hj : (j : Int) < k := hj; omega)⟩, q⟩
  · exact h
theorem INV.tell (h : INV m) (v : Int) : INV (u_tell m v) := by
  unfold u_tell
  split
  · exact h
  · obtain ⟨r, kp, sh, tp, q⟩ := h
    exact ⟨r, kp, sh, tp, by show 0 ≤ m 17 7 + 1; omega, by show m 17 7 + 1 ≤ 60; omega⟩
theorem INV.check (h : INV m) : INV (u_check m) := by
  obtain ⟨r, kp, sh, tp, q⟩ := h
  exact ⟨r, kp, sh, tp, by show (0 : Int) ≤ 0; omega, by show (0 : Int) ≤ 60; omega⟩
theorem zcp0 (T f : Nat → Int) {k : Nat} (hk : k < 1510) : zcp T 0 f 1510 k = f k := by
  have h := zcp_hit (T := T) (b := 0) (f := f) (n := 1510) (i := k) hk
  rw [Nat.zero_add] at h
  exact h
theorem INV.keep (h : INV m) : INV (u_keep m) := by
  obtain ⟨⟨w, t, d⟩, kp, sh, tp, q⟩ := h
  have e1 : u_keep m 1 = zcp (m 1) 0 (m 0) 1510 := rfl
  refine ⟨⟨w, t, d⟩, fun _ => ?_, sh, tp, q⟩
  rw [e1]
  exact ⟨zW_cong (fun k hk => zcp0 _ _ (by omega)) w, zT_cong (fun k hk => zcp0 _ _ hk) t, by rw [zcp0 _ _ (by omega)]; exact d⟩
theorem INV.back (h : INV m) : INV (u_back m) := by
  unfold u_back
  split
  · exact h
  · rename_i c
    obtain ⟨w, t, d⟩ := h.2.1 c
    exact h.row (zW_cong (fun k hk => zcp0 _ _ (by omega)) w) (zT_cong (fun k hk => zcp0 _ _ hk) t) (by rw [zcp0 _ _ (by omega)]; exact d)
theorem INV.mark (h : INV m) (k p v : Int) : INV (u_mark m k p v) := by
  unfold u_mark
  split
  · exact h
  · exact h
theorem INV.copy (h : INV m) (k p k2 p2 n : Int) : INV (u_copy m k p k2 p2 n) := by
  unfold u_copy
  split
  · exact h
  · exact h
theorem mSh_put (h : mSh m) {q : Nat} {a b : Int} (ha : -1 ≤ a ∧ a ≤ 1) (hb : 0 ≤ b ∧ b ≤ 24) (h9 : m' 9 = va_up (m 9) q a) (h10 : m' 10 = va_up (m 10) q b) : mSh m' := by
  intro k hk
  rw [h9, h10]
  by_cases e : k = q
  · subst e; rw [va_up_self, va_up_self]; exact ⟨ha, hb⟩
  · rw [va_up_ne _ _ e, va_up_ne _ _ e]; exact h k hk
theorem INV.sheet (h : INV m) (k so n : Int) : INV (u_sheet m k so n) := by
  obtain ⟨r, kp, sh, tp, q⟩ := h
  unfold u_sheet
  split
  · rename_i c
    split
    · exact ⟨r, kp, mSh_put sh (q := k.toNat) (a := -1) (b := 0) (by omega) (by omega) rfl rfl, tp, q⟩
    · split
      · exact ⟨r, kp, sh, tp, q⟩
      · exact ⟨r, kp, mSh_put sh (q := k.toNat) (a := so) (b := n) (by omega) (by omega) rfl rfl, tp, q⟩
  · exact ⟨r, kp, sh, tp, q⟩
theorem INV.lay (h : INV m) (k w v : Int) : INV (u_layS m k w v) := by
  unfold u_layS
  split
  · rename_i c
    have c := of_decide_eq_true c
    split
    · exact h
    · unfold u_laid
      split
      · exact h
      · split
        · rename_i c1 c2
          obtain ⟨r, kp, sh, tp, q⟩ := h
          have := sh v.toNat (by omega)
          exact ⟨r, kp, mSh_put sh (q := 4 + k.toNat) (a := m 9 v.toNat) (b := m 10 v.toNat) this.1 this.2 rfl rfl, tp, q⟩
        · exact h
  · exact h
end INVS
