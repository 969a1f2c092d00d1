/-! ===== the county as a row of ints, and what is read off it ===== -/
def zsum (f : Nat → Int) : Nat → Int
  | 0 => 0
  | n + 1 => zsum f n + f n
theorem zsum_succ (f : Nat → Int) (n : Nat) : zsum f (n + 1) = zsum f n + f n := rfl
theorem zsum_congr {f h : Nat → Int} : ∀ {n : Nat}, (∀ i, i < n → f i = h i) → zsum f n = zsum h n
  | 0, _ => rfl
  | n + 1, e => by rw [zsum_succ, zsum_succ, zsum_congr (fun i hi => e i (by omega)), e n (by omega)]
theorem zsum_le {f : Nat → Int} {a b : Int} : ∀ {n : Nat}, (∀ i, i < n → a ≤ f i ∧ f i ≤ b) → n * a ≤ zsum f n ∧ zsum f n ≤ n * b
  | 0, _ => by simp [zsum]
  | n + 1, e => by
    have h1 := zsum_le (n := n) (fun i hi => e i (by omega))
    have h2 := e n (by omega)
    rw [zsum_succ]
    have e1 : ((n + 1 : Nat) : Int) * a = n * a + a := by rw [Int.natCast_add, Int.add_mul]; simp
    have e2 : ((n + 1 : Nat) : Int) * b = n * b + b := by rw [Int.natCast_add, Int.add_mul]; simp
    omega
def zmany (s : Nat → Int) : Nat := (s 0).toNat
def zinY (s : Nat → Int) (y : Int) (n : Nat) : Int := zsum (fun i => if zk s i 3 = y then 1 else 0) n
theorem zinY_in (s : Nat → Int) (y : Int) (n : Nat) : 0 ≤ zinY s y n ∧ zinY s y n ≤ n := by
  have := zsum_le (f := fun i => if zk s i 3 = y then 1 else 0) (a := 0) (b := 1) (n := n) (fun i _ => by split <;> omega)
  unfold zinY
  omega
def znm (a b c d : Int) : Nat → Int := fun j => if j = 0 then a else if j = 1 then b else if j = 2 then c else d
/-- what the text that counts for the key w gives, its names being nm -/
def zlaw (s : Nat → Int) (w : Nat) (nm : Nat → Int) : Int := zwork nm (fun k => s (110 + 100 * (s (65 + w)).toNat + k)) (s (82 + (s (65 + w)).toNat)).toNat
def zlook (s : Nat → Int) (i y c : Int) : Int := zheld (if 0 ≤ s 65 then zlaw s 0 (znm (zk s i 1) (zk s i 2) (s (8 + y).toNat) c) else zk s i 1 - (zk s i 2).tdiv 2) 0 99
/-- what goose i would see in yard y with c geese in it -/
def zsee (s : Nat → Int) (i y c : Int) : Int := if zk s i 0 = 5 then 1 else if zk s i 0 = 3 then (zlook s i y c).tdiv 3 else if zk s i 0 = 2 then (if (s 6).tmod 2 = 0 then zlook s i y c else 99) else if zk s i 0 = 4 then zheld ((if (s 6).tmod 2 = 0 then zlook s i y c else 99) - 9 * (c - 1)) 0 99 else zlook s i y c
def zsees (s : Nat → Int) (i : Int) : Int := zsee s i (zk s i 3) (zinY s (zk s i 3) (zmany s))
def ztal (k : Int) : Int := if k = 1 then 1 else if k = 3 then -2 else if k = 2 ∨ k = 4 then 3 else if k = 5 then 4 else 2
def zwan (k : Int) : Int := if k = 1 then 1 else if k = 3 then 2 else if k = 4 then 3 else 0
/-- goose i is a witness in yard y: 1 or 0 -/
def zwit (s : Nat → Int) (i y : Int) : Int := if zk s i 3 = y ∧ s 1 ≤ zsees s i then 1 else 0
def zcount (s : Nat → Int) (y : Int) : Int := zsum (fun i => if zwit s i y = 1 then ztal (zk s i 0) else 0) (zmany s)
def zhold (s : Nat → Int) (y : Int) : Int := if s (8 + y).toNat ≤ zcount s y then 1 else 0
def zmask (p : Nat → Int) (n : Nat) : Int := zsum (fun i => if p i = 1 then 2 ^ i else 0) n
/-- field w of the first n geese becomes f -/
def zset (s : Nat → Int) (w : Nat) (f : Nat → Int) : Nat → Nat → Int
  | 0 => s
  | n + 1 => va_up (zset s w f n) (14 + 5 * n + w) (f n)
theorem zset_hit {s : Nat → Int} {w : Nat} {f : Nat → Int} : ∀ {n i : Nat}, i < n → zset s w f n (14 + 5 * i + w) = f i
  | 0, _, h => absurd h (Nat.not_lt_zero _)
  | n + 1, i, h => by
    show va_up (zset s w f n) (14 + 5 * n + w) (f n) (14 + 5 * i + w) = f i
    by_cases e : i = n
    · subst e; rw [va_up_self]
    · rw [va_up_ne _ _ (by omega)]; exact zset_hit (by omega)
theorem zset_miss {s : Nat → Int} {w : Nat} {f : Nat → Int} : ∀ {n j : Nat}, (∀ i, i < n → j ≠ 14 + 5 * i + w) → zset s w f n j = s j
  | 0, _, _ => rfl
  | n + 1, j, h => by
    show va_up (zset s w f n) (14 + 5 * n + w) (f n) j = s j
    rw [va_up_ne _ _ (h n (by omega))]
    exact zset_miss (fun i hi => h i (by omega))
def zdraw (z : Int) : Int := w32 (w32 (z * 1103515245) + 12345)
def zdv (z : Int) : Int := iUshr z 8
/-- numbers, yards, geese within their bounds -/
def zW (s : Nat → Int) : Prop :=
  (0 ≤ s 0 ∧ s 0 ≤ 10 ∧ 0 ≤ s 1 ∧ s 1 ≤ 99 ∧ 0 ≤ s 2 ∧ s 2 ≤ 100) ∧ (0 ≤ s 3 ∧ s 3 ≤ 99999 ∧ 0 ≤ s 4 ∧ s 4 ≤ 99999 ∧ 0 ≤ s 5 ∧ s 5 ≤ 99999) ∧ (0 ≤ s 6 ∧ s 6 ≤ 20000 ∧ inR (s 7)) ∧
  (∀ y : Nat, y < 6 → 0 ≤ s (8 + y) ∧ s (8 + y) ≤ 99) ∧
  (∀ i : Nat, (i : Int) < s 0 → (0 ≤ s (14 + 5 * i) ∧ s (14 + 5 * i) ≤ 5) ∧ (0 ≤ s (15 + 5 * i) ∧ s (15 + 5 * i) ≤ 99) ∧ (0 ≤ s (16 + 5 * i) ∧ s (16 + 5 * i) ≤ 99) ∧ (0 ≤ s (17 + 5 * i) ∧ s (17 + 5 * i) ≤ 5) ∧ (0 ≤ s (18 + 5 * i) ∧ s (18 + 5 * i) ≤ 9999))
/-- texts: how many, which count, their words -/
def zT (s : Nat → Int) : Prop :=
  (0 ≤ s 64 ∧ s 64 ≤ 14) ∧ (∀ w : Nat, w < 3 → -1 ≤ s (65 + w) ∧ s (65 + w) < s 64) ∧ (∀ w : Nat, w < 3 → 0 ≤ s (65 + w) → s (68 + (s (65 + w)).toNat) = w) ∧
  (∀ t : Nat, (t : Int) < s 64 → (0 ≤ s (68 + t) ∧ s (68 + t) ≤ 2) ∧ (1 ≤ s (82 + t) ∧ s (82 + t) ≤ 96) ∧ (1 ≤ s (96 + t) ∧ s (96 + t) ≤ 96) ∧ zwf (fun k => s (110 + 100 * t + k)) (s (82 + t)).toNat (if s (68 + t) = 0 then 4 else 2))
theorem zW.goose {s : Nat → Int} (h : zW s) {i : Int} (h0 : 0 ≤ i) (h1 : i < s 0) : (0 ≤ zk s i 0 ∧ zk s i 0 ≤ 5) ∧ (0 ≤ zk s i 1 ∧ zk s i 1 ≤ 99) ∧ (0 ≤ zk s i 2 ∧ zk s i 2 ≤ 99) ∧ (0 ≤ zk s i 3 ∧ zk s i 3 ≤ 5) ∧ (0 ≤ zk s i 4 ∧ zk s i 4 ≤ 9999) := by
  have := h.2.2.2.2 i.toNat (by omega)
  unfold zk
  rw [show (14 + 5 * i + 0).toNat = 14 + 5 * i.toNat by omega, show (14 + 5 * i + 1).toNat = 15 + 5 * i.toNat by omega, show (14 + 5 * i + 2).toNat = 16 + 5 * i.toNat by omega, show (14 + 5 * i + 3).toNat = 17 + 5 * i.toNat by omega, show (14 + 5 * i + 4).toNat = 18 + 5 * i.toNat by omega]
  exact this
theorem zW.need {s : Nat → Int} (h : zW s) {y : Int} (h0 : 0 ≤ y) (h1 : y ≤ 5) : 0 ≤ s (8 + y).toNat ∧ s (8 + y).toNat ≤ 99 := by
  have := h.2.2.2.1 y.toNat (by omega)
  rw [show (8 + y).toNat = 8 + y.toNat by omega]
  exact this
theorem zheld_in {v lo hi : Int} (h : lo ≤ hi) : lo ≤ zheld v lo hi ∧ zheld v lo hi ≤ hi := by unfold zheld; grind
theorem zheld_id {v lo hi : Int} (h : lo ≤ v) (h1 : v ≤ hi) : zheld v lo hi = v := by unfold zheld; grind
theorem zlook_in (s : Nat → Int) (i y c : Int) : 0 ≤ zlook s i y c ∧ zlook s i y c ≤ 99 := zheld_in (by omega)
theorem zsee_in (s : Nat → Int) (i y c : Int) : 0 ≤ zsee s i y c ∧ zsee s i y c ≤ 99 := by
  have h := zlook_in s i y c
  have h2 := zheld_in (v := (if (s 6).tmod 2 = 0 then zlook s i y c else 99) - 9 * (c - 1)) (lo := 0) (hi := 99) (by omega)
  have h3 : 0 ≤ (zlook s i y c).tdiv 3 ∧ (zlook s i y c).tdiv 3 ≤ 99 := by
    rw [Int.tdiv_eq_ediv_of_nonneg h.1]; omega
  unfold zsee
  grind
theorem ztal_in (k : Int) : -2 ≤ ztal k ∧ ztal k ≤ 4 := by unfold ztal; grind
theorem zwit01 (s : Nat → Int) (i y : Int) : zwit s i y = 0 ∨ zwit s i y = 1 := by unfold zwit; grind
theorem zhold01 (s : Nat → Int) (y : Int) : zhold s y = 0 ∨ zhold s y = 1 := by unfold zhold; grind
theorem zcount_in {s : Nat → Int} (h : zW s) (y : Int) : -20 ≤ zcount s y ∧ zcount s y ≤ 40 := by
  have := zsum_le (f := fun i => if zwit s i y = 1 then ztal (zk s i 0) else 0) (a := -2) (b := 4) (n := zmany s) (fun i _ => by have := ztal_in (zk s i 0); split <;> omega)
  have h1 := h.1
  unfold zcount
  have h2 : (zmany s : Int) ≤ 10 := by unfold zmany; omega
  omega
