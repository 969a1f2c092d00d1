/-! ===== a day, as a function of the row ===== -/
theorem zset_goose {s : Nat → Int} {w : Nat} {f : Nat → Int} {n i v : Nat} (hv : v < 5) (hw : w < 5) : zset s w f n (14 + 5 * i + v) = if v = w ∧ i < n then f i else s (14 + 5 * i + v) := by
  by_cases c : v = w ∧ i < n
  · rw [if_pos c, c.1]; exact zset_hit c.2
  · rw [if_neg c]
    refine zset_miss (fun k hk e => c ?_)
    have : k = i := by omega
    subst this
    exact ⟨by omega, hk⟩
theorem zset_low {s : Nat → Int} {w : Nat} {f : Nat → Int} {n j : Nat} (hw : w < 5) (hn : n ≤ 10) (h : j < 14 ∨ 64 ≤ j) : zset s w f n j = s j := zset_miss (fun k hk => by omega)
theorem va_up_comm {α : Type} {f : Nat → α} {a b : Nat} (x y : α) (h : a ≠ b) : va_up (va_up f a x) b y = va_up (va_up f b y) a x := by
  funext j
  unfold va_up
  grind
theorem zset_up {s : Nat → Int} {w k : Nat} {f : Nat → Int} {x : Int} : ∀ {n : Nat}, (∀ i, i < n → k ≠ 14 + 5 * i + w) → zset (va_up s k x) w f n = va_up (zset s w f n) k x
  | 0, _ => rfl
  | n + 1, h => by
    show va_up (zset (va_up s k x) w f n) (14 + 5 * n + w) (f n) = va_up (va_up (zset s w f n) (14 + 5 * n + w) (f n)) k x
    rw [zset_up (fun i hi => h i (by omega)), va_up_comm _ _ (h n (by omega))]
def zfox (s : Nat → Int) : Nat → Int := if (zdv (zdraw (s 7))).tmod 100 < s 2 ∧ 0 < s 0 then va_up (va_up (va_up (va_up s 7 (zdraw (zdraw (s 7)))) (14 + 5 * ((zdv (zdraw (zdraw (s 7)))).tmod (s 0)).toNat + 2) 0) (14 + 5 * ((zdv (zdraw (zdraw (s 7)))).tmod (s 0)).toNat + 4) 0) 5 (zheld (s 5 + 1) 0 99999) else va_up s 7 (zdraw (s 7))
def zwander (s : Nat → Int) : Nat → Int := zset s 3 (fun i => (zk s i 3 + zwan (zk s i 0)).tmod 6) (zmany s)
def zolder (s : Nat → Int) : Nat → Int := zset s 2 (fun i => zheld (zk s i 2 + (if (s 6).tmod 5 = 4 then 1 else 0)) 0 99) (zmany s)
def zday (s : Nat → Int) : Nat → Int := va_up (zfox (zolder (zwander (zbarg s ((s 6).tmod 6))))) 6 (s 6 + 1)
def zdays (s : Nat → Int) : Nat → Nat → Int
  | 0 => s
  | n + 1 => zday (zdays s n)
theorem zdays_succ (s : Nat → Int) : ∀ n, zdays s (n + 1) = zdays (zday s) n
  | 0 => rfl
  | n + 1 => by show zday (zdays s (n + 1)) = zday (zdays (zday s) n); rw [zdays_succ s n]
theorem zdv_in (z : Int) : 0 ≤ zdv z ∧ zdv z < 16777216 := by
  unfold zdv iUshr
  generalize hx : ((Int32.ofInt z).toUInt32 >>> ((Int32.ofInt 8).toUInt32 &&& Int32.toUInt32 31)).toInt32 = x
  have h := pk_ushr (Int32.ofInt z) (Int32.ofInt 8) 8 (by decide +kernel)
  rw [hx] at h
  have h2 : (Int32.ofInt z).toBitVec.toNat < 2 ^ 32 := (Int32.ofInt z).toBitVec.isLt
  have h3 : x.toBitVec.toNat < 16777216 := by rw [h]; omega
  have h4 : x.toInt = x.toBitVec.toNat := by
    show x.toBitVec.toInt = _
    rw [BitVec.toInt_eq_toNat_of_lt (by omega)]
  omega
theorem zdraw_in (z : Int) : inR (zdraw z) := w32_in _
theorem tmod_in {a b : Int} (ha : 0 ≤ a) (hb : 0 < b) : 0 ≤ a.tmod b ∧ a.tmod b < b := ⟨Int.tmod_nonneg _ ha, Int.tmod_lt_of_pos _ hb⟩
/-- what a part of a day leaves as it is -/
def zkeep (s s' : Nat → Int) : Prop := s' 0 = s 0 ∧ s' 1 = s 1 ∧ s' 2 = s 2 ∧ (∀ y : Nat, y < 6 → s' (8 + y) = s (8 + y)) ∧ (∀ i : Nat, (i : Int) < s 0 → s' (14 + 5 * i) = s (14 + 5 * i) ∧ s' (15 + 5 * i) = s (15 + 5 * i)) ∧ ∀ j : Nat, 64 ≤ j → s' j = s j
theorem zkeep.rf {s : Nat → Int} : zkeep s s := ⟨rfl, rfl, rfl, fun _ _ => rfl, fun _ _ => ⟨rfl, rfl⟩, fun _ _ => rfl⟩
theorem zkeep.tr {s s1 s2 : Nat → Int} (h1 : zkeep s s1) (h2 : zkeep s1 s2) : zkeep s s2 := by
  obtain ⟨a1, a2, a3, a4, a5, a6⟩ := h1
  obtain ⟨b1, b2, b3, b4, b5, b6⟩ := h2
  exact ⟨b1.trans a1, b2.trans a2, b3.trans a3, fun y hy => (b4 y hy).trans (a4 y hy), fun i hi => ⟨((b5 i (by omega)).1).trans (a5 i hi).1, ((b5 i (by omega)).2).trans (a5 i hi).2⟩, fun j hj => (b6 j hj).trans (a6 j hj)⟩
theorem zkeep.many {s s' : Nat → Int} (h : zkeep s s') : zmany s' = zmany s := by unfold zmany; rw [h.1]
theorem zmany_le {s : Nat → Int} (h : zW s) : zmany s ≤ 10 ∧ (zmany s : Int) = s 0 := by
  have := h.1
  unfold zmany
  omega
theorem zbarg_keep {s : Nat → Int} (h : zW s) (y : Int) : zkeep s (zbarg s y) ∧ zbarg s y 5 = s 5 ∧ zbarg s y 6 = s 6 ∧ zbarg s y 7 = s 7 := by
  have hm := zmany_le h
  have hw : ∀ j : Nat, j ≠ 3 → j ≠ 4 → zbarg s y j = zset s 4 (zbargS s y) (zmany s) j := by
    intro j h3 h4
    unfold zbarg
    rw [va_up_ne _ _ (by split <;> omega)]
  have lo : ∀ j : Nat, j ≠ 3 → j ≠ 4 → (j < 14 ∨ 64 ≤ j) → zbarg s y j = s j := by
    intro j h3 h4 h5
    rw [hw j h3 h4]
    exact zset_low (by omega) (by omega) h5
  refine ⟨⟨lo 0 (by omega) (by omega) (by omega), lo 1 (by omega) (by omega) (by omega), lo 2 (by omega) (by omega) (by omega), fun y hy => lo _ (by omega) (by omega) (by omega), fun i hi => ⟨?_, ?_⟩, fun j hj => lo j (by omega) (by omega) (by omega)⟩, lo 5 (by omega) (by omega) (by omega), lo 6 (by omega) (by omega) (by omega), lo 7 (by omega) (by omega) (by omega)⟩
  · rw [hw _ (by omega) (by omega)]
    exact zset_miss (fun k hk => by omega)
  · rw [hw _ (by omega) (by omega)]
    exact zset_miss (fun k hk => by omega)
theorem zbarg_W {s : Nat → Int} (h : zW s) (y : Int) : zW (zbarg s y) := by
  have hm := zmany_le h
  obtain ⟨⟨k0, k1, k2, k3, k4, k5⟩, e5, e6, e7⟩ := zbarg_keep h y
  obtain ⟨w1, w2, w3, w4, w5⟩ := h
  have hw : ∀ j : Nat, j ≠ 3 → j ≠ 4 → zbarg s y j = zset s 4 (zbargS s y) (zmany s) j := by
    intro j h3 h4
    unfold zbarg
    rw [va_up_ne _ _ (by split <;> omega)]
  have hl : ∀ j : Nat, j < 14 → zset s 4 (zbargS s y) (zmany s) j = s j := fun j hj => zset_low (by omega) (by omega) (by omega)
  refine ⟨by rw [k0, k1, k2]; exact w1, ?_, by rw [e6, e7]; exact w3, fun y' hy => by rw [k3 y' hy]; exact w4 y' hy, fun i hi => ?_⟩
  · rw [e5]
    have b1 := zheld_in (v := s 3 + 1) (lo := 0) (hi := 99999) (by omega)
    have b2 := zheld_in (v := s 4 + 1) (lo := 0) (hi := 99999) (by omega)
    unfold zbarg
    by_cases c : zhold s y = 1
    · simp only [if_pos c]
      rw [va_up_self, va_up_ne _ _ (by omega), hl 4 (by omega)]
      omega
    · simp only [if_neg c]
      rw [va_up_self, va_up_ne _ _ (by omega), hl 3 (by omega)]
      omega
  · rw [k0] at hi
    obtain ⟨a, b⟩ := k4 i hi
    have c := w5 i hi
    have e2 : zbarg s y (16 + 5 * i) = s (16 + 5 * i) := by rw [hw _ (by omega) (by omega)]; exact zset_miss (fun k hk => by omega)
    have e3 : zbarg s y (17 + 5 * i) = s (17 + 5 * i) := by rw [hw _ (by omega) (by omega)]; exact zset_miss (fun k hk => by omega)
    have e4 : zbarg s y (18 + 5 * i) = zbargS s y i := by
      rw [hw _ (by omega) (by omega), show 18 + 5 * i = 14 + 5 * i + 4 by omega]
      exact zset_hit (by omega)
    have b4 := zheld_in (v := zk s i 4 + (if zhold s y = 1 ∧ zwit s i y = 1 then 1 else 0)) (lo := 0) (hi := 9999) (by omega)
    rw [a, b, e2, e3, e4]
    exact ⟨c.1, c.2.1, c.2.2.1, c.2.2.2.1, b4⟩
theorem zwander_W {s : Nat → Int} (h : zW s) : zW (zwander s) ∧ zkeep s (zwander s) ∧ (∀ j : Nat, j < 14 → zwander s j = s j) ∧ (∀ i : Nat, (i : Int) < s 0 → zwander s (16 + 5 * i) = s (16 + 5 * i) ∧ zwander s (18 + 5 * i) = s (18 + 5 * i) ∧ zwander s (17 + 5 * i) = (zk s i 3 + zwan (zk s i 0)).tmod 6) := by
  have hm := zmany_le h
  have hl : ∀ j : Nat, j < 14 → zwander s j = s j := fun j hj => zset_low (by omega) (by omega) (by omega)
  have hh : ∀ j : Nat, 64 ≤ j → zwander s j = s j := fun j hj => zset_low (by omega) (by omega) (by omega)
  have ms : ∀ i v : Nat, v < 5 → v ≠ 3 → zwander s (14 + v + 5 * i) = s (14 + v + 5 * i) := fun i v h1 h2 => zset_miss (fun k hk => by omega)
  have ht : ∀ i : Nat, (i : Int) < s 0 → zwander s (17 + 5 * i) = (zk s i 3 + zwan (zk s i 0)).tmod 6 := by
    intro i hi
    rw [show 17 + 5 * i = 14 + 5 * i + 3 by omega]
    exact zset_hit (f := fun i => (zk s i 3 + zwan (zk s i 0)).tmod 6) (by omega)
  refine ⟨?_, ⟨hl 0 (by omega), hl 1 (by omega), hl 2 (by omega), fun y hy => hl _ (by omega), fun i hi => ⟨ms i 0 (by omega) (by omega), ms i 1 (by omega) (by omega)⟩, hh⟩, hl, fun i hi => ⟨ms i 2 (by omega) (by omega), ms i 4 (by omega) (by omega), ht i hi⟩⟩
  have hgo := fun (i : Nat) (hi : (i : Int) < s 0) => h.goose (i := (i : Int)) (by omega) hi
  obtain ⟨w1, w2, w3, w4, w5⟩ := h
  refine ⟨by rw [hl 0 (by omega), hl 1 (by omega), hl 2 (by omega)]; exact w1, by rw [hl 3 (by omega), hl 4 (by omega), hl 5 (by omega)]; exact w2, by rw [hl 6 (by omega), hl 7 (by omega)]; exact w3, fun y hy => by rw [hl _ (by omega)]; exact w4 y hy, fun i hi => ?_⟩
  rw [hl 0 (by omega)] at hi
  have c := w5 i hi
  have hg := hgo i hi
  have hz : 0 ≤ zwan (zk s i 0) := by unfold zwan; grind
  have t := tmod_in (a := zk s i 3 + zwan (zk s i 0)) (b := 6) (by omega) (by omega)
  rw [ms i 0 (by omega) (by omega), ms i 1 (by omega) (by omega), ms i 2 (by omega) (by omega), ms i 4 (by omega) (by omega), ht i hi]
  exact ⟨c.1, c.2.1, c.2.2.1, ⟨t.1, by omega⟩, c.2.2.2.2⟩
theorem zolder_W {s : Nat → Int} (h : zW s) : zW (zolder s) ∧ zkeep s (zolder s) ∧ (∀ j : Nat, j < 14 → zolder s j = s j) := by
  have hm := zmany_le h
  have hl : ∀ j : Nat, j < 14 → zolder s j = s j := fun j hj => zset_low (by omega) (by omega) (by omega)
  have hh : ∀ j : Nat, 64 ≤ j → zolder s j = s j := fun j hj => zset_low (by omega) (by omega) (by omega)
  have ms : ∀ i v : Nat, v < 5 → v ≠ 2 → zolder s (14 + v + 5 * i) = s (14 + v + 5 * i) := fun i v h1 h2 => zset_miss (fun k hk => by omega)
  refine ⟨?_, ⟨hl 0 (by omega), hl 1 (by omega), hl 2 (by omega), fun y hy => hl _ (by omega), fun i hi => ⟨ms i 0 (by omega) (by omega), ms i 1 (by omega) (by omega)⟩, hh⟩, hl⟩
  obtain ⟨w1, w2, w3, w4, w5⟩ := h
  refine ⟨by rw [hl 0 (by omega), hl 1 (by omega), hl 2 (by omega)]; exact w1, by rw [hl 3 (by omega), hl 4 (by omega), hl 5 (by omega)]; exact w2, by rw [hl 6 (by omega), hl 7 (by omega)]; exact w3, fun y hy => by rw [hl _ (by omega)]; exact w4 y hy, fun i hi => ?_⟩
  rw [hl 0 (by omega)] at hi
  have c := w5 i hi
  have e2 : zolder s (14 + 2 + 5 * i) = zheld (zk s i 2 + (if (s 6).tmod 5 = 4 then 1 else 0)) 0 99 := by
    rw [show 14 + 2 + 5 * i = 14 + 5 * i + 2 by omega]
    exact zset_hit (f := fun i => zheld (zk s i 2 + (if (s 6).tmod 5 = 4 then 1 else 0)) 0 99) (by omega)
  have b4 := zheld_in (v := zk s i 2 + (if (s 6).tmod 5 = 4 then 1 else 0)) (lo := 0) (hi := 99) (by omega)
  rw [ms i 0 (by omega) (by omega), ms i 1 (by omega) (by omega), ms i 3 (by omega) (by omega), ms i 4 (by omega) (by omega), e2]
  exact ⟨c.1, c.2.1, b4, c.2.2.2⟩
theorem upb {s : Nat → Int} {i j : Nat} {x lo hi : Int} (h1 : i = j → lo ≤ x ∧ x ≤ hi) (h2 : lo ≤ s i ∧ s i ≤ hi) : lo ≤ va_up s j x i ∧ va_up s j x i ≤ hi := by
  by_cases e : i = j
  · rw [e, va_up_self]; exact h1 e
  · rw [va_up_ne _ _ e]; exact h2
theorem zW_up {s : Nat → Int} (h : zW s) {j : Nat} {x : Int} (c0 : j ≠ 0) (c1 : j = 1 → 0 ≤ x ∧ x ≤ 99) (c2 : j = 2 → 0 ≤ x ∧ x ≤ 100) (c3 : 3 ≤ j → j ≤ 5 → 0 ≤ x ∧ x ≤ 99999) (c6 : j = 6 → 0 ≤ x ∧ x ≤ 20000) (c7 : j = 7 → inR x) (c8 : 8 ≤ j → j < 14 → 0 ≤ x ∧ x ≤ 99)
    (cg : ∀ i v : Nat, v < 5 → j = 14 + 5 * i + v → (i : Int) < s 0 → (v = 0 → 0 ≤ x ∧ x ≤ 5) ∧ (v = 1 → 0 ≤ x ∧ x ≤ 99) ∧ (v = 2 → 0 ≤ x ∧ x ≤ 99) ∧ (v = 3 → 0 ≤ x ∧ x ≤ 5) ∧ (v = 4 → 0 ≤ x ∧ x ≤ 9999)) : zW (va_up s j x) := by
  obtain ⟨w1, w2, w3, w4, w5⟩ := h
  have e0 : va_up s j x 0 = s 0 := va_up_ne _ _ (Ne.symm c0)
  have b1 := upb (s := s) (i := 1) (j := j) (x := x) (lo := 0) (hi := 99) (fun e => c1 e.symm) (by omega)
  have b2 := upb (s := s) (i := 2) (j := j) (x := x) (lo := 0) (hi := 100) (fun e => c2 e.symm) (by omega)
  have b3 := upb (s := s) (i := 3) (j := j) (x := x) (lo := 0) (hi := 99999) (fun e => c3 (by omega) (by omega)) (by omega)
  have b4 := upb (s := s) (i := 4) (j := j) (x := x) (lo := 0) (hi := 99999) (fun e => c3 (by omega) (by omega)) (by omega)
  have b5 := upb (s := s) (i := 5) (j := j) (x := x) (lo := 0) (hi := 99999) (fun e => c3 (by omega) (by omega)) (by omega)
  have b6 := upb (s := s) (i := 6) (j := j) (x := x) (lo := 0) (hi := 20000) (fun e => c6 e.symm) (by omega)
  have b7 : inR (va_up s j x 7) := by
    by_cases e : 7 = j
    · rw [e, va_up_self]; exact c7 e.symm
    · rw [va_up_ne _ _ e]; exact w3.2.2
  refine ⟨by rw [e0]; omega, by omega, ⟨b6.1, b6.2, b7⟩, fun y hy => upb (fun e => c8 (by omega) (by omega)) (w4 y hy), fun i hi => ?_⟩
  rw [e0] at hi
  have c := w5 i hi
  exact ⟨upb (fun e => (cg i 0 (by omega) (by omega) hi).1 rfl) c.1, upb (fun e => (cg i 1 (by omega) (by omega) hi).2.1 rfl) c.2.1, upb (fun e => (cg i 2 (by omega) (by omega) hi).2.2.1 rfl) c.2.2.1, upb (fun e => (cg i 3 (by omega) (by omega) hi).2.2.2.1 rfl) c.2.2.2.1, upb (fun e => (cg i 4 (by omega) (by omega) hi).2.2.2.2 rfl) c.2.2.2.2⟩
theorem zkeep_up {s s' : Nat → Int} (h : zkeep s s') {j : Nat} {x : Int} (c1 : 3 ≤ j) (c2 : j < 64) (c3 : j < 8 ∨ 14 ≤ j) (c4 : ∀ i : Nat, (i : Int) < s 0 → j ≠ 14 + 5 * i ∧ j ≠ 15 + 5 * i) : zkeep s (va_up s' j x) := by
  obtain ⟨a1, a2, a3, a4, a5, a6⟩ := h
  refine ⟨?_, ?_, ?_, fun y hy => ?_, fun i hi => ⟨?_, ?_⟩, fun k hk => ?_⟩
  · rw [va_up_ne _ _ (by omega)]; exact a1
  · rw [va_up_ne _ _ (by omega)]; exact a2
  · rw [va_up_ne _ _ (by omega)]; exact a3
  · rw [va_up_ne _ _ (by omega)]; exact a4 y hy
  · rw [va_up_ne _ _ (Ne.symm (c4 i hi).1)]; exact (a5 i hi).1
  · rw [va_up_ne _ _ (Ne.symm (c4 i hi).2)]; exact (a5 i hi).2
  · rw [va_up_ne _ _ (by omega)]; exact a6 k hk
theorem zfox_W {s : Nat → Int} (h : zW s) : zW (zfox s) ∧ zkeep s (zfox s) ∧ zfox s 6 = s 6 ∧ zfox s 3 = s 3 ∧ ∀ i : Nat, (i : Int) < s 0 → zfox s (17 + 5 * i) = s (17 + 5 * i) := by
  unfold zfox
  by_cases c : (zdv (zdraw (s 7))).tmod 100 < s 2 ∧ 0 < s 0
  · rw [if_pos c]
    have t := tmod_in (zdv_in (zdraw (zdraw (s 7)))).1 c.2
    have hn := h.1
    have hh := zheld_in (v := s 5 + 1) (lo := 0) (hi := 99999) (by omega)
    have hz := zdraw_in (zdraw (s 7))
    have hk : (((zdv (zdraw (zdraw (s 7)))).tmod (s 0)).toNat : Int) < s 0 := by omega
    generalize ((zdv (zdraw (zdraw (s 7)))).tmod (s 0)).toNat = k at hk ⊢
    have W1 : zW (va_up s 7 (zdraw (zdraw (s 7)))) := zW_up h (by omega) (by omega) (by omega) (by omega) (by omega) (fun _ => hz) (by omega) (fun i v h1 h2 => by omega)
    have W2 : zW (va_up (va_up s 7 (zdraw (zdraw (s 7)))) (14 + 5 * k + 2) 0) := zW_up W1 (by omega) (by omega) (by omega) (by omega) (by omega) (by omega) (by omega) (fun i v h1 h2 h3 => by omega)
    have W3 : zW (va_up (va_up (va_up s 7 (zdraw (zdraw (s 7)))) (14 + 5 * k + 2) 0) (14 + 5 * k + 4) 0) := zW_up W2 (by omega) (by omega) (by omega) (by omega) (by omega) (by omega) (by omega) (fun i v h1 h2 h3 => by omega)
    refine ⟨zW_up W3 (by omega) (by omega) (by omega) (fun _ _ => hh) (by omega) (by omega) (by omega) (fun i v h1 h2 => by omega), zkeep_up (zkeep_up (zkeep_up (zkeep_up zkeep.rf (by omega) (by omega) (by omega) (fun i hi => by omega)) (by omega) (by omega) (by omega) (fun i hi => by omega)) (by omega) (by omega) (by omega) (fun i hi => by omega)) (by omega) (by omega) (by omega) (fun i hi => by omega), ?_, ?_, fun i hi => ?_⟩
    · rw [va_up_ne _ _ (by omega), va_up_ne _ _ (by omega), va_up_ne _ _ (by omega), va_up_ne _ _ (by omega)]
    · rw [va_up_ne _ _ (by omega), va_up_ne _ _ (by omega), va_up_ne _ _ (by omega), va_up_ne _ _ (by omega)]
    · rw [va_up_ne _ _ (by omega), va_up_ne _ _ (by omega), va_up_ne _ _ (by omega), va_up_ne _ _ (by omega)]
  · rw [if_neg c]
    have hz := zdraw_in (s 7)
    refine ⟨zW_up h (by omega) (by omega) (by omega) (by omega) (by omega) (fun _ => hz) (by omega) (fun i v h1 h2 => by omega), zkeep_up zkeep.rf (by omega) (by omega) (by omega) (fun i hi => by omega), ?_, ?_, fun i hi => ?_⟩
    · rw [va_up_ne _ _ (by omega)]
    · rw [va_up_ne _ _ (by omega)]
    · rw [va_up_ne _ _ (by omega)]
theorem zday_W {s : Nat → Int} (h : zW s) (hd : s 6 < 20000) : zW (zday s) ∧ zkeep s (zday s) ∧ zday s 6 = s 6 + 1 := by
  obtain ⟨k1, e5, e6, e7⟩ := zbarg_keep h ((s 6).tmod 6)
  have W1 := zbarg_W h ((s 6).tmod 6)
  obtain ⟨W2, k2, l2, -⟩ := zwander_W W1
  obtain ⟨W3, k3, l3⟩ := zolder_W W2
  obtain ⟨W4, k4, l4, -⟩ := zfox_W W3
  have h6 := h.2.2.1
  have hn := h.1
  refine ⟨zW_up W4 (by omega) (by omega) (by omega) (by omega) (fun _ => by omega) (by omega) (by omega) (fun i v h1 h2 => by omega), zkeep_up (((k1.tr k2).tr k3).tr k4) (by omega) (by omega) (by omega) (fun i hi => by omega), va_up_self _ _ _⟩
theorem zdays_W {s : Nat → Int} (h : zW s) : ∀ n : Nat, s 6 + n ≤ 20000 → zW (zdays s n) ∧ zkeep s (zdays s n) ∧ zdays s n 6 = s 6 + n
  | 0, _ => ⟨h, zkeep.rf, by simp [zdays]⟩
  | n + 1, hn => by
    obtain ⟨a, b, c⟩ := zdays_W h n (by omega)
    obtain ⟨a2, b2, c2⟩ := zday_W a (by omega)
    exact ⟨a2, b.tr b2, by show zday (zdays s n) 6 = _; rw [c2, c]; omega⟩
theorem zT_keep {s s' : Nat → Int} (h : zT s) (hk : ∀ j : Nat, 64 ≤ j → s' j = s j) : zT s' := by
  obtain ⟨h1, h2, h3, h4⟩ := h
  refine ⟨by rw [hk 64 (by omega)]; exact h1, fun w hw => by rw [hk _ (by omega), hk 64 (by omega)]; exact h2 w hw, fun w hw h0 => ?_, fun t ht => ?_⟩
  · rw [hk (65 + w) (by omega)] at h0 ⊢
    rw [hk _ (by omega)]
    exact h3 w hw h0
  · rw [hk 64 (by omega)] at ht
    rw [hk (68 + t) (by omega), hk (82 + t) (by omega), hk (96 + t) (by omega)]
    have e : (fun k => s' (110 + 100 * t + k)) = fun k => s (110 + 100 * t + k) := funext (fun k => hk _ (by omega))
    rw [e]
    exact h4 t ht
