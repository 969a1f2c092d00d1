/-! ===== sets as bits ===== -/
theorem gi_nat (n : Nat) : Int32.ofInt (n : Int) = nI n := Int32.ofInt_eq_ofNat
theorem iShl_1 : ∀ n : Nat, n < 16 → iShl 1 (n : Int) = 2 ^ n := by decide +kernel
theorem iShl_0 : ∀ n : Nat, n < 16 → iShl 0 (n : Int) = 0 := by decide +kernel
theorem iOr_0 {x : Int} (h : inR x) : iOr x 0 = x := by
  unfold iOr
  rw [show Int32.ofInt 0 = 0 from rfl, Int32.or_zero, gi_to h]
theorem nI_or (a b : Nat) : nI a ||| nI b = nI (a ||| b) := by
  apply Int32.toBitVec_inj.1
  show BitVec.ofNat 32 a ||| BitVec.ofNat 32 b = BitVec.ofNat 32 (a ||| b)
  apply BitVec.eq_of_getLsbD_eq
  intro i hi
  simp [hi]
theorem nI_and (a b : Nat) : nI a &&& nI b = nI (a &&& b) := by
  apply Int32.toBitVec_inj.1
  show BitVec.ofNat 32 a &&& BitVec.ofNat 32 b = BitVec.ofNat 32 (a &&& b)
  apply BitVec.eq_of_getLsbD_eq
  intro i hi
  simp [hi]
theorem pow16 {n : Nat} (h : n < 16) : 2 ^ n ≤ 32768 := by
  have : (2 : Nat) ^ n ≤ 2 ^ 15 := Nat.pow_le_pow_right (by decide) (by omega)
  simpa using this
theorem iOr_pow {x n : Nat} (h : x < 2 ^ n) (hn : n < 16) : iOr (x : Int) (2 ^ n) = ((x + 2 ^ n : Nat) : Int) := by
  have h2 := pow16 hn
  unfold iOr
  have e : ((2 : Int) ^ n) = ((2 ^ n : Nat) : Int) := by simp
  rw [e, gi_nat, gi_nat, nI_or]
  have e2 : x ||| 2 ^ n = x + 2 ^ n := by
    have := Nat.two_pow_add_eq_or_of_lt h 1
    rw [Nat.mul_one] at this
    rw [Nat.or_comm, ← this]
    omega
  rw [e2, nI_toInt (by omega)]
theorem iAnd_nat (x y : Nat) (hx : x < 2147483648) : iAnd (x : Int) (y : Int) = ((x &&& y : Nat) : Int) := by
  unfold iAnd
  rw [gi_nat, gi_nat, nI_and, nI_toInt (Nat.lt_of_le_of_lt Nat.and_le_left hx)]
theorem sh_ok : ∀ n : Nat, n < 16 → ((nI n &&& 31).toBitVec.smod 32).toNat = n := by decide +kernel
theorem iShr_nat (x n : Nat) (hx : x < 2147483648) (hn : n < 16) : iShr (x : Int) (n : Int) = ((x / 2 ^ n : Nat) : Int) := by
  unfold iShr
  rw [gi_nat, gi_nat, pk_shrN hx _ n (sh_ok n hn), nI_toInt (Nat.lt_of_le_of_lt (Nat.div_le_self _ _) hx)]
theorem iBit (x n : Nat) (hx : x < 2147483648) (hn : n < 16) : iAnd (iShr (x : Int) (n : Int)) 1 = ((x / 2 ^ n % 2 : Nat) : Int) := by
  rw [iShr_nat x n hx hn]
  have := iAnd_nat (x / 2 ^ n) 1 (Nat.lt_of_le_of_lt (Nat.div_le_self _ _) hx)
  rw [Nat.and_one_is_mod] at this
  exact this
/-- the set of those below n for which p is 1 -/
def zmN (p : Nat → Int) : Nat → Nat
  | 0 => 0
  | n + 1 => zmN p n + if p n = 1 then 2 ^ n else 0
theorem zmN_lt (p : Nat → Int) : ∀ n, zmN p n < 2 ^ n
  | 0 => by simp [zmN]
  | n + 1 => by
    have := zmN_lt p n
    show zmN p n + (if p n = 1 then 2 ^ n else 0) < 2 ^ (n + 1)
    rw [Nat.pow_succ]
    split <;> omega
theorem zmN_congr {p q : Nat → Int} : ∀ {n : Nat}, (∀ i, i < n → (p i = 1 ↔ q i = 1)) → zmN p n = zmN q n
  | 0, _ => rfl
  | n + 1, h => by
    show zmN p n + _ = zmN q n + _
    rw [zmN_congr (fun i hi => h i (by omega))]
    have := h n (by omega)
    grind
theorem zmN_test (p : Nat → Int) : ∀ (n g : Nat), (zmN p n).testBit g = decide (g < n ∧ p g = 1)
  | 0, g => by simp [zmN]
  | n + 1, g => by
    have ih := zmN_test p n
    have hlt := zmN_lt p n
    show (zmN p n + (if p n = 1 then 2 ^ n else 0)).testBit g = _
    by_cases hp : p n = 1
    · rw [if_pos hp]
      have e : zmN p n + 2 ^ n = 2 ^ n * 1 + zmN p n := by omega
      rw [e, Nat.testBit_two_pow_mul_add 1 hlt]
      by_cases hg : g < n
      · rw [if_pos hg, ih g]
        have : (g < n ∧ p g = 1) ↔ (g < n + 1 ∧ p g = 1) := by omega
        simp only [this]
      · rw [if_neg hg]
        by_cases e : g = n
        · subst e; simp [hp]
        · have h1 : ¬ (g < n + 1 ∧ p g = 1) := by omega
          rw [decide_eq_false h1]
          obtain ⟨k, hk⟩ : ∃ k, g - n = k + 1 := ⟨g - n - 1, by omega⟩
          rw [hk]
          simp [Nat.testBit_add_one]
    · rw [if_neg hp, Nat.add_zero, ih g]
      have : (g < n ∧ p g = 1) ↔ (g < n + 1 ∧ p g = 1) := by
        constructor
        · rintro ⟨h1, h2⟩; exact ⟨by omega, h2⟩
        · rintro ⟨h1, h2⟩
          refine ⟨?_, h2⟩
          rcases Nat.lt_or_ge g n with h | h
          · exact h
          · have : g = n := by omega
            subst this; exact absurd h2 hp
      simp only [this]
theorem zmN_bit (p : Nat → Int) (n g : Nat) : zmN p n / 2 ^ g % 2 = if g < n ∧ p g = 1 then 1 else 0 := by
  have h := zmN_test p n g
  rw [Nat.testBit_eq_decide_div_mod_eq] at h
  by_cases c : g < n ∧ p g = 1
  · rw [if_pos c]
    rw [decide_eq_true c] at h
    exact of_decide_eq_true h
  · rw [if_neg c]
    rw [decide_eq_false c] at h
    have := of_decide_eq_false h
    omega
theorem zmk_bit (p : Nat → Int) {n g : Nat} (hn : n < 16) (hg : g < 16) : iAnd (iShr ((zmN p n : Nat) : Int) (g : Int)) 1 = if g < n ∧ p g = 1 then 1 else 0 := by
  have h1 := zmN_lt p n
  have h2 := pow16 hn
  rw [iBit _ _ (by omega) hg, zmN_bit]
  split <;> rfl
theorem zmk_or (p : Nat → Int) {n : Nat} (hn : n < 16) (h : p n = 1) : iOr ((zmN p n : Nat) : Int) (iShl 1 (n : Int)) = ((zmN p (n + 1) : Nat) : Int) := by
  rw [iShl_1 n hn, iOr_pow (zmN_lt p n) hn]
  show _ = ((zmN p n + (if p n = 1 then 2 ^ n else 0) : Nat) : Int)
  rw [if_pos h]
theorem zmk_or0 (p : Nat → Int) {n : Nat} (hn : n < 16) (h : ¬ p n = 1) : iOr ((zmN p n : Nat) : Int) 0 = ((zmN p (n + 1) : Nat) : Int) := by
  have h1 := zmN_lt p n
  have h2 := pow16 hn
  rw [iOr_0 (by unfold inR; omega)]
  show _ = ((zmN p n + (if p n = 1 then 2 ^ n else 0) : Nat) : Int)
  rw [if_neg h, Nat.add_zero]
