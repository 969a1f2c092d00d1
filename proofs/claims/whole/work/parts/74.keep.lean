/-! ===== what holds between the calls is kept ===== -/
theorem iAnd_255 (x : Int) : 0 ≤ iAnd x 255 ∧ iAnd x 255 ≤ 255 := by
  unfold iAnd
  have h1 : (Int32.ofInt x &&& Int32.ofInt 255).toBitVec.toNat ≤ 255 := by
    show ((Int32.ofInt x).toBitVec &&& (Int32.ofInt 255).toBitVec).toNat ≤ 255
    rw [BitVec.toNat_and]
    exact Nat.le_trans Nat.and_le_right (Nat.le_of_ble_eq_true rfl)
  have h2 : (Int32.ofInt x &&& Int32.ofInt 255).toInt = ((Int32.ofInt x &&& Int32.ofInt 255).toBitVec.toNat : Int) := by
    show (Int32.ofInt x &&& Int32.ofInt 255).toBitVec.toInt = _
    exact BitVec.toInt_eq_toNat_of_lt (by omega)
  omega
theorem zP_cong {s s' : Nat → Int} (h : zP s) (hT : zT s) (e : ∀ k : Nat, k < 1510 → s' k = s k) : zP s' := by
  intro t ht
  rw [e 64 (by omega)] at ht
  have t14 := hT.1.2
  have tl := (hT.2.2.2 t ht).2.1
  obtain ⟨p1, p2⟩ := h t ht
  rw [e (96 + t) (by omega), e (82 + t) (by omega)]
  refine ⟨?_, fun k hk hk2 => ?_⟩
  · rw [p1, zops_cong (code := fun k => s (110 + 100 * t + k)) (n := 96) (fun i hi => e _ (by omega)) _ (by omega)]
  · rw [e (110 + 100 * t + k) (by omega)] at hk2 ⊢
    exact p2 k hk hk2
section JVS
variable {m m' U : Nat → Nat → Int}
theorem JV.eq (h : JV U) (e : EQ U m') : JV m' := by
  refine ⟨h.1.eq e, ?_⟩
  have h2 := h.2
  rw [e.1 0 (by simp), e.1 1 (by simp), e.1 15 (by simp), e.1 13 (by simp), e.1 9 (by simp), e.2 6 (by simp)]
  exact h2
theorem JV.row (h : JV m) {S : Nat → Int} (h1 : zW S) (h3 : S 6 ≤ 9999) (hk : ∀ j : Nat, 64 ≤ j → S j = m 0 j) : JV (va_up m 0 S) := ⟨h.1.row h1 (zT_keep h.zg.2.1 hk) h3, zP_keep h.2.1 hk, h.2.2⟩
theorem JV.same (h : JV m) {S : Nat → Int} (e : S = m 0) : JV (va_up m 0 S) := by rw [e, va_up_id]; exact h
theorem JV.goose (h : JV m) (k a b c : Int) : JV (va_up m 0 (u_goose (m 0) k a b c)) := by
  refine ⟨h.1.goose k a b c, zP_keep h.2.1 (fun j hj => ?_), h.2.2⟩
  have w0 := h.zg.1.1
  show u_goose (m 0) k a b c j = m 0 j
  unfold u_goose
  split
  · exact zadd_out _ _ _ _ _ (by omega) (by omega)
  · rfl
theorem JV.put (h : JV m) {c : Prop} [Decidable c] {k x : Int} (hw : c → zW (va_up (m 0) k.toNat x)) (hk : c → k.toNat < 64 ∧ k.toNat ≠ 6) : JV (va_up m 0 (u_put (m 0) c k x)) := by
  unfold u_put
  split
  · rename_i hc
    have := hk hc
    exact h.row (hw hc) (by rw [va_up_ne _ _ (by omega)]; exact h.1.1.2.2) (fun j hj => va_up_ne _ _ (by omega))
  · exact h.same rfl
theorem JV.turns (h : JV m) (i k : Int) : JV (va_up m 0 (u_put (m 0) ((0 ≤ i ∧ i < m 0 0) ∧ 0 ≤ k ∧ k ≤ 5) (14 + 5 * i) k)) := by
  have w0 := h.zg.1.1
  exact h.put (fun c => zW_up h.zg.1 (by omega) (by omega) (by omega) (by omega) (by omega) (by omega) (by omega) (fun i' v' h1 h2 h3 => by omega)) (fun c => by omega)
theorem JV.set (h : JV m) (i w v : Int) [Decidable (c_set (m 0) i w v)] : JV (va_up m 0 (u_put (m 0) (c_set (m 0) i w v) (14 + 5 * i + w) v)) := by
  have w0 := h.zg.1.1
  refine h.put (fun c => ?_) (fun c => by have := c.1; have := c.2.1; omega)
  obtain ⟨c1, c2, c3, c4⟩ := c
  refine zW_up h.zg.1 (by omega) (by omega) (by omega) (by omega) (by omega) (by omega) (by omega) (fun i' v' h1 h2 h3 => ?_)
  have e : v' = w.toNat := by omega
  subst e
  refine ⟨by omega, fun q => ?_, fun q => ?_, fun q => ?_, fun q => ?_⟩
  · rw [if_neg (by omega), if_neg (by omega)] at c4; omega
  · rw [if_neg (by omega), if_neg (by omega)] at c4; omega
  · rw [if_pos (by omega)] at c4; omega
  · rw [if_neg (by omega), if_pos (by omega)] at c4; omega
theorem JV.needs (h : JV m) (y v : Int) : JV (va_up m 0 (u_put (m 0) ((0 ≤ y ∧ y ≤ 5) ∧ 0 ≤ v ∧ v ≤ 99) (8 + y) v)) :=
  h.put (fun c => zW_up h.zg.1 (by omega) (by omega) (by omega) (by omega) (by omega) (by omega) (by omega) (fun i' v' h1 h2 h3 => by omega)) (fun c => by omega)
theorem JV.rule (h : JV m) (w v : Int) : JV (va_up m 0 (u_put (m 0) ((0 ≤ w ∧ w ≤ 1) ∧ 0 ≤ v ∧ v ≤ 99 + w) (1 + w) v)) :=
  h.put (fun c => zW_up h.zg.1 (by omega) (by omega) (by omega) (by omega) (by omega) (by omega) (by omega) (fun i' v' h1 h2 h3 => by omega)) (fun c => by omega)
theorem JV.seed (h : JV m) {v : Int} (hv : inR v) : JV (va_up m 0 (va_up (m 0) 7 v)) :=
  h.row (zW_up h.zg.1 (by omega) (by omega) (by omega) (by omega) (by omega) (fun _ => hv) (by omega) (fun i' v' h1 h2 h3 => by omega)) h.1.1.2.2 (fun j hj => va_up_ne _ _ (by omega))
theorem JV.deal (h : JV m) (n : Int) : JV (va_up m 0 (u_deal (m 0) n)) := by
  have w0 := h.zg.1.1
  refine ⟨h.1.deal n, zP_keep h.2.1 (fun j hj => ?_), h.2.2⟩
  show u_deal (m 0) n j = m 0 j
  unfold u_deal
  split
  · have hz : zdealt (m 0) n = min n.toNat (10 - (m 0 0).toNat) := rfl
    exact (zdeal_W h.zg.1 (zdealt (m 0) n) (by omega)).2.2.2 j hj
  · rfl
theorem JV.strike (h : JV m) (y : Int) : JV (va_up m 0 (if 0 ≤ y ∧ y ≤ 5 then zbarg (m 0) y else m 0)) := by
  split
  · obtain ⟨kp, -, k6, -⟩ := zbarg_keep h.zg.1 y
    exact h.row (zbarg_W h.zg.1 y) (by rw [k6]; exact h.1.1.2.2) kp.2.2.2.2.2
  · exact h.same rfl
theorem JV.days (h : JV m) (n : Int) : JV (va_up m 0 (u_days (m 0) n)) := by
  have w6 := h.zg.1.2.2.1
  refine ⟨h.1.days n, zP_keep h.2.1 (fun j hj => ?_), h.2.2⟩
  show u_days (m 0) n j = m 0 j
  unfold u_days
  split
  · have hz : z_left (m 0) n = (if n < 9999 - m 0 6 then n else 9999 - m 0 6).toNat := rfl
    have hd := h.1.1.2.2
    have hle : m 0 6 + (z_left (m 0) n : Nat) ≤ 9999 := by rw [hz]; split <;> omega
    exact (zdays_W h.zg.1 (z_left (m 0) n) (by omega)).2.1.2.2.2.2.2 j hj
  · rfl
theorem zfeed_in {T : Nat → Int} {p : Nat} {a b c : Int} {k : Nat} : ∀ j : Nat, (k < p → 0 ≤ T k ∧ T k ≤ 255) → k < p + j → 0 ≤ zfeed T p a b c j k ∧ zfeed T p a b c j k ≤ 255
  | 0, h, hk => h (by omega)
  | j + 1, h, hk => by
    show 0 ≤ va_up (zfeed T p a b c j) (p + j) (zfd a b c j) k ∧ va_up (zfeed T p a b c j) (p + j) (zfd a b c j) k ≤ 255
    by_cases q : k = p + j
    · subst q; rw [va_up_self]; exact iAnd_255 _
    · rw [va_up_ne _ _ q]; exact zfeed_in j h (by omega)
theorem JV.feed (h : JV m) (a b c : Int) : JV (u_feed m a b c) := by
  unfold u_feed
  split
  · exact h
  · rename_i c1
    obtain ⟨⟨r, kp, sh, tp, q⟩, h2⟩ := h
    have t1 := tp.1
    refine ⟨⟨r, kp, sh, ⟨?_, ?_, fun k hk => ?_⟩, q⟩, h2⟩
    · show 0 ≤ m 17 11 + 12; omega
    · show m 17 11 + 12 ≤ 96; omega
    · have hk : (k : Int) < m 17 11 + 12 := hk
      show 0 ≤ zfeed (m 7) (m 17 11).toNat a b c 12 k ∧ zfeed (m 7) (m 17 11).toNat a b c 12 k ≤ 255
      exact zfeed_in 12 (fun q => tp.2.2 k (by omega)) (by omega)
theorem JV.trim (h : JV m) (k : Int) : JV (u_trim m k) := by
  refine ⟨h.1.trim k, ?_⟩
  have h2 := h.2
  unfold u_trim
  split
  · exact h2
  · exact h2
theorem JV.text (h : JV m) : JV (u_text m) := by
  refine ⟨h.1.text, ?_, h.2.2⟩
  show zP (if (mR m).ok = true ∧ ¬ m 0 64 = 14 then zlay (m 0) (mK m) (mR m) else m 0)
  split
  · rename_i c
    have hB := h.1.2.2.2.1.byt
    obtain ⟨z1, -, z3, -⟩ := zprs_ok hB c.1
    have kin := zkey_in (mB m) (zR0 (mB m) (m 17 11).toNat)
    have t0 := h.zg.2.1.1
    have hv : ZV (mR m) := (zprs_ZV hB c.1).1
    have hl : (mR m).out.length ≤ 96 := z3.2
    exact zlay_P (t := (m 0 64).toNat) h.2.1 h.zg.2.1 (by omega) (by omega) (by unfold mK; omega) hl hv
  · exact h.2.1
theorem JV.sheet (h : JV m) (k so n : Int) : JV (u_sheet m k so n) := by
  refine ⟨h.1.sheet k so n, ?_⟩
  obtain ⟨-, a, b, c⟩ := h
  have key : ∀ x : Int, 0 ≤ k ∧ k ≤ 3 → ∀ j : Nat, j < 5 → (0 ≤ m 15 (4 * j) ∧ m 15 (4 * j) ≤ 5) ∧ (m 13 j = 2 → ¬ va_up (m 9) k.toNat x (4 + j) < 0) := fun x hk j hj => by
    rw [va_up_ne _ _ (by omega)]; exact c j hj
  unfold u_sheet
  split
  · rename_i c0
    split
    · exact ⟨a, b, key _ c0.1⟩
    · split
      · exact ⟨a, b, c⟩
      · exact ⟨a, b, key _ c0.1⟩
  · exact ⟨a, b, c⟩
theorem JV.mark (h : JV m) (k p v : Int) : JV (u_mark m k p v) := by
  refine ⟨h.1.mark k p v, ?_⟩
  have h2 := h.2
  unfold u_mark
  split <;> exact h2
theorem JV.copy (h : JV m) (k p k2 p2 n : Int) : JV (u_copy m k p k2 p2 n) := by
  refine ⟨h.1.copy k p k2 p2 n, ?_⟩
  have h2 := h.2
  unfold u_copy
  split <;> exact h2
theorem JV.lay (h : JV m) (k w v : Int) : JV (u_layS m k w v) := by
  refine ⟨h.1.lay k w v, ?_⟩
  have hZ := h.zg
  obtain ⟨-, a, b, c⟩ := h
  unfold u_layS
  split
  · rename_i c0
    have c0 := of_decide_eq_true c0
    split
    · exact ⟨a, b, c⟩
    · rename_i c1
      unfold u_laid
      split
      · rename_i cw
        have hg := hZ.1.goose (i := ((v.toNat : Nat) : Int)) (by omega) (by omega)
        refine ⟨a, b, fun j hj => ⟨?_, fun q => ?_⟩⟩
        · show 0 ≤ va_up (va_up (va_up (va_up (m 15) (4 * k.toNat) (zk (m 0) v.toNat 0)) (4 * k.toNat + 1) (zk (m 0) v.toNat 1)) (4 * k.toNat + 2) (zk (m 0) v.toNat 2)) (4 * k.toNat + 3) (zk (m 0) v.toNat 4) (4 * j) ∧ va_up (va_up (va_up (va_up (m 15) (4 * k.toNat) (zk (m 0) v.toNat 0)) (4 * k.toNat + 1) (zk (m 0) v.toNat 1)) (4 * k.toNat + 2) (zk (m 0) v.toNat 2)) (4 * k.toNat + 3) (zk (m 0) v.toNat 4) (4 * j) ≤ 5
          rw [va_up_ne _ _ (by omega), va_up_ne _ _ (by omega), va_up_ne _ _ (by omega)]
          by_cases q : j = k.toNat
          · subst q; rw [va_up_self]; exact hg.1
          · rw [va_up_ne _ _ (by omega)]; exact (c j hj).1
        · have q : va_up (m 13) k.toNat w j = 2 := q
          by_cases e : j = k.toNat
          · subst e; rw [va_up_self] at q; omega
          · rw [va_up_ne _ _ e] at q; exact (c j hj).2 q
      · split
        · rename_i cn cw
          refine ⟨a, b, fun j hj => ⟨(c j hj).1, fun q => ?_⟩⟩
          show ¬ va_up (m 9) (4 + k.toNat) (m 9 v.toNat) (4 + j) < 0
          have q : va_up (m 13) k.toNat w j = 2 := q
          by_cases e : j = k.toNat
          · subst e; rw [va_up_self]; exact fun r => c1 ⟨cw, r⟩
          · rw [va_up_ne _ _ e] at q
            rw [va_up_ne _ _ (by omega)]; exact (c j hj).2 q
        · rename_i cn cw
          refine ⟨a, b, fun j hj => ⟨(c j hj).1, fun q => ?_⟩⟩
          have q : va_up (m 13) k.toNat w j = 2 := q
          by_cases e : j = k.toNat
          · subst e; rw [va_up_self] at q; exact absurd q cw
          · rw [va_up_ne _ _ e] at q; exact (c j hj).2 q
  · exact ⟨a, b, c⟩
theorem JV.pour (h : JV m) (k : Int) : JV (u_pour m k) := by
  unfold u_pour
  split
  · obtain ⟨hz1, hz⟩ := zmany_le h.zg.1
    have hmn : zmn (m 0) (m 10 k.toNat) ≤ zmany (m 0) := Nat.min_le_left _ _
    generalize zmn (m 0) (m 10 k.toNat) = n at hmn
    generalize (fun d => m 11 (24 * k.toNat + d)) = nums
    have key : ∀ j : Nat, j ≤ n → zW (zset (m 0) 1 (zpo (m 0) nums) j) := by
      intro j
      induction j with
      | zero => intro _; exact h.zg.1
      | succ j ih =>
        intro hj
        have hg := (h.zg.1.goose (i := (j : Int)) (by omega) (by omega)).2.1
        have hp : 0 ≤ zpo (m 0) nums j ∧ zpo (m 0) nums j ≤ 99 := by
          unfold zpo
          split
          · exact hg
          · exact zheld_in (by omega)
        exact zW_up (ih (by omega)) (by omega) (by omega) (by omega) (by omega) (by omega) (by omega) (by omega) (fun i' v' h1 h2 h3 => by omega)
    exact h.row (key n (Nat.le_refl _)) (by rw [zset_low (by omega) (by omega) (by omega)]; exact h.1.1.2.2) (fun j hj => zset_low (by omega) (by omega) (by omega))
  · exact h
theorem JV.tell (h : JV m) (v : Int) : JV (u_tell m v) := by
  refine ⟨h.1.tell v, ?_⟩
  have h2 := h.2
  unfold u_tell
  split <;> exact h2
theorem JV.check (h : JV m) : JV (u_check m) := ⟨h.1.check, h.2⟩
theorem JV.keep (h : JV m) : JV (u_keep m) := ⟨h.1.keep, h.2.1, fun _ => zP_cong h.2.1 h.zg.2.1 (fun k hk => zcp0 _ _ hk), h.2.2.2⟩
theorem JV.back (h : JV m) : JV (u_back m) := by
  refine ⟨h.1.back, ?_⟩
  unfold u_back
  split
  · exact h.2
  · rename_i c
    obtain ⟨kw, kt, kd⟩ := h.1.2.1 c
    exact ⟨zP_cong (h.2.2.1 c) kt (fun k hk => zcp0 _ _ hk), h.2.2.1, h.2.2.2⟩
end JVS
