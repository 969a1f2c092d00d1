/-! ===== whole numbers as the picture has them ===== -/
def w32 (x : Int) : Int := (x + 2147483648) % 4294967296 - 2147483648
def inR (x : Int) : Prop := -2147483648 ≤ x ∧ x < 2147483648
def inL (x : Int) : Prop := -9223372036854775808 ≤ x ∧ x < 9223372036854775808
theorem w32_in (x : Int) : inR (w32 x) := by unfold inR w32; omega
theorem w32_id {x : Int} (h : inR x) : w32 x = x := by unfold inR at h; unfold w32; omega
theorem w32_bmod (x : Int) : w32 x = x.bmod 4294967296 := by
  unfold w32 Int.bmod
  simp only
  split <;> omega
theorem gi_w32 (x : Int) : Int32.ofInt (w32 x) = Int32.ofInt x := by
  apply Int32.toInt_inj.1
  rw [Int32.toInt_ofInt, Int32.toInt_ofInt]
  show (w32 x).bmod 4294967296 = x.bmod 4294967296
  rw [w32_bmod, Int.bmod_bmod]
theorem gi_to {x : Int} (h : inR x) : (Int32.ofInt x).toInt = x := Int32.toInt_ofInt_of_le (by have := h.1; omega) (by have := h.2; omega)
theorem gi_in (x : Int32) : inR x.toInt := ⟨by have := Int32.le_toInt x; omega, by have := Int32.toInt_lt x; omega⟩
theorem gi_eq {a b : Int} (ha : inR a) (hb : inR b) : Int32.ofInt a = Int32.ofInt b ↔ a = b := by
  constructor
  · intro h
    have := congrArg Int32.toInt h
    rwa [gi_to ha, gi_to hb] at this
  · intro h; rw [h]
theorem gi_lt {a b : Int} (ha : inR a) (hb : inR b) : Int32.ofInt a < Int32.ofInt b ↔ a < b := by
  rw [Int32.lt_iff_toInt_lt, gi_to ha, gi_to hb]
theorem gi_le {a b : Int} (ha : inR a) (hb : inR b) : Int32.ofInt a ≤ Int32.ofInt b ↔ a ≤ b := by
  rw [Int32.le_iff_toInt_le, gi_to ha, gi_to hb]
theorem inR_0 : inR 0 := by unfold inR; omega
theorem gi_0 : Int32.ofInt 0 = 0 := rfl
theorem gi_eq0 {a : Int} (ha : inR a) : Int32.ofInt a = 0 ↔ a = 0 := by rw [← gi_0]; exact gi_eq ha inR_0
theorem gi_lt0 {a : Int} (ha : inR a) : Int32.ofInt a < 0 ↔ a < 0 := by rw [← gi_0]; exact gi_lt ha inR_0
theorem gi_le0 {a : Int} (ha : inR a) : Int32.ofInt a ≤ 0 ↔ a ≤ 0 := by rw [← gi_0]; exact gi_le ha inR_0
theorem gi_gt0 {a : Int} (ha : inR a) : 0 < Int32.ofInt a ↔ 0 < a := by rw [← gi_0]; exact gi_lt inR_0 ha
theorem gi_ge0 {a : Int} (ha : inR a) : 0 ≤ Int32.ofInt a ↔ 0 ≤ a := by rw [← gi_0]; exact gi_le inR_0 ha
theorem gi_cl {i : Int} (h : inR i) : (Int32.ofInt i).toNatClampNeg = i.toNat := by
  show (Int32.ofInt i).toInt.toNat = i.toNat
  rw [gi_to h]
theorem gi_vp {i : Int} {n : Nat} (h : inR i) (h0 : 0 ≤ i) (hn : i < n) : vp_in (Int32.ofInt i) n := by
  rintro (q | q)
  · rw [gi_lt0 h] at q; omega
  · rw [gi_cl h] at q; omega
theorem gi_sub (a b : Int) : Int32.ofInt a - Int32.ofInt b = Int32.ofInt (w32 (a - b)) := by rw [gi_w32, Int32.ofInt_sub]
theorem gi_add (a b : Int) : Int32.ofInt a + Int32.ofInt b = Int32.ofInt (w32 (a + b)) := by rw [gi_w32, Int32.ofInt_add]
theorem gi_mul (a b : Int) : Int32.ofInt a * Int32.ofInt b = Int32.ofInt (w32 (a * b)) := by rw [gi_w32, Int32.ofInt_mul]
theorem gi_neg (a : Int) : - Int32.ofInt a = Int32.ofInt (w32 (-a)) := by rw [gi_w32, Int32.ofInt_neg]
theorem gi_div {a b : Int} (ha : inR a) (hb : inR b) : Int32.ofInt a / Int32.ofInt b = Int32.ofInt (w32 (a.tdiv b)) := by
  apply Int32.toInt_inj.1
  rw [Int32.toInt_div, gi_to ha, gi_to hb, gi_to (w32_in _), w32_bmod]
theorem inR_tmod {a b : Int} (ha : inR a) (hb : inR b) (h0 : b ≠ 0) : inR (a.tmod b) := by
  have h1 : (a.tmod b).natAbs = a.natAbs % b.natAbs := Int.natAbs_tmod a b
  have h2 : a.natAbs % b.natAbs < b.natAbs := Nat.mod_lt _ (by omega)
  have h3 : a.natAbs % b.natAbs ≤ a.natAbs := Nat.mod_le _ _
  unfold inR at ha hb ⊢
  rcases Int.le_total 0 a with h | h
  · have := Int.tmod_nonneg b h
    omega
  · omega
theorem gi_rem {a b : Int} (ha : inR a) (hb : inR b) : Int32.ofInt a - Int32.ofInt a / Int32.ofInt b * Int32.ofInt b = Int32.ofInt (a.tmod b) := by
  rw [gi_div ha hb, gi_w32, ← Int32.ofInt_mul, ← Int32.ofInt_sub]
  congr 1
  have := Int.mul_tdiv_add_tmod a b
  have h2 : b * a.tdiv b = a.tdiv b * b := Int.mul_comm _ _
  omega
def iAnd (a b : Int) : Int := (Int32.ofInt a &&& Int32.ofInt b).toInt
def iOr (a b : Int) : Int := (Int32.ofInt a ||| Int32.ofInt b).toInt
def iXor (a b : Int) : Int := (Int32.ofInt a ^^^ Int32.ofInt b).toInt
def iShl (a b : Int) : Int := (Int32.ofInt a <<< (Int32.ofInt b &&& 31)).toInt
def iShr (a b : Int) : Int := (Int32.ofInt a >>> (Int32.ofInt b &&& 31)).toInt
def iUshr (a b : Int) : Int := ((Int32.ofInt a).toUInt32 >>> ((Int32.ofInt b).toUInt32 &&& Int32.toUInt32 31)).toInt32.toInt
def iI2s (a : Int) : Int := (Int32.ofInt a).toInt16.toInt32.toInt
def iI2b (a : Int) : Int := (Int32.ofInt a).toInt8.toInt32.toInt
def iI2c (a : Int) : Int := ((Int32.ofInt a).toUInt32 % 65536).toInt32.toInt
def iCmp (a b : Int) : Int := if b < a then 1 else if a < b then -1 else 0
theorem gl_to {x : Int} (h : inL x) : (Int64.ofInt x).toInt = x := Int64.toInt_ofInt_of_le (by have := h.1; omega) (by have := h.2; omega)
theorem gl_lt {a b : Int} (ha : inL a) (hb : inL b) : Int64.ofInt a < Int64.ofInt b ↔ a < b := by
  rw [Int64.lt_iff_toInt_lt, gl_to ha, gl_to hb]
theorem gl_eq {a b : Int} (ha : inL a) (hb : inL b) : Int64.ofInt a = Int64.ofInt b ↔ a = b := by
  constructor
  · intro h
    have := congrArg Int64.toInt h
    rwa [gl_to ha, gl_to hb] at this
  · intro h; rw [h]
theorem gl_cmp {a b : Int} (ha : inL a) (hb : inL b) : lg_cmp (Int64.ofInt a) (Int64.ofInt b) = Int32.ofInt (iCmp a b) := by
  unfold lg_cmp iCmp
  simp only [gl_lt hb ha, gl_eq ha hb]
  by_cases h1 : b < a
  · rw [if_pos h1, if_pos h1]; rfl
  · rw [if_neg h1, if_neg h1]
    by_cases h2 : a = b
    · rw [if_pos h2, if_neg (by omega)]; rfl
    · rw [if_neg h2, if_pos (by omega)]; rfl
theorem gl_i2l {a : Int} (ha : inR a) : (Int32.ofInt a).toInt64 = Int64.ofInt a := by
  rw [← Int64.ofInt_int32ToInt, gi_to ha]
theorem inL_of {a : Int} (ha : inR a) : inL a := by unfold inR at ha; unfold inL; omega
theorem inR_cmp (a b : Int) : inR (iCmp a b) := by
  unfold iCmp
  split
  · unfold inR; omega
  · split <;> (unfold inR; omega)
/-! ===== values, cells, memory ===== -/
/-- a value: an int, a long, a reference into the memory (or null), a constant's number (or nothing) -/
abbrev GV : Type := Int ⊕ (Int ⊕ (Option Nat ⊕ Option Nat))
abbrev gI (x : Int) : GV := .inl x
abbrev gL (x : Int) : GV := .inr (.inl x)
abbrev gO (o : Option Nat) : GV := .inr (.inr (.inl o))
abbrev gR (a : Nat) : GV := .inr (.inr (.inl (some a)))
abbrev gN : GV := .inr (.inr (.inl none))
abbrev gS (i : Nat) : GV := .inr (.inr (.inr (some i)))
abbrev gU : GV := .inr (.inr (.inr none))
/-- a cell: a row of ints, a row of references to objects of a class, an object -/
abbrev GC : Type := (Nat × (Nat → Int)) ⊕ ((Nat × Nat × (Nat → Option Nat)) ⊕ (Nat × List GV))
abbrev cI (n : Nat) (f : Nat → Int) : GC := .inl (n, f)
abbrev cR (ci n : Nat) (f : Nat → Option Nat) : GC := .inr (.inl (ci, n, f))
abbrev cO (ci : Nat) (fs : List GV) : GC := .inr (.inr (ci, fs))
/-- how many cells, and what they are (beyond: an object of no class) -/
abbrev GM : Type := Nat × (Nat → GC)
/-- the launch, the first free address, the classes, the class of int rows, of rows of objects, the addresses of constants, the script -/
abbrev GX : Type := Launch × Nat × va_G × ClassId × (Nat → ClassId) × (Nat → Nat) × Nat × (Nat → Int)
abbrev xs0 (g : GX) : Nat := g.2.1
abbrev xD (g : GX) : va_G := g.2.2.1
abbrev xaI (g : GX) : ClassId := g.2.2.2.1
abbrev xaR (g : GX) : Nat → ClassId := g.2.2.2.2.1
abbrev xsa (g : GX) : Nat → Nat := g.2.2.2.2.2.1
abbrev xL (g : GX) : Nat := g.2.2.2.2.2.2.1
abbrev xX (g : GX) : Nat → Int := g.2.2.2.2.2.2.2
/-- the method's name, its bytes, its locals, what it answers -/
abbrev GY : Type := MethodName × ByteArray × Nat × Option FieldType
def rv (g : GX) : GV → Value
  | .inl x => .int (Int32.ofInt x)
  | .inr (.inl x) => .long (Int64.ofInt x)
  | .inr (.inr (.inl none)) => .null
  | .inr (.inr (.inl (some a))) => .ref (xs0 g + a)
  | .inr (.inr (.inr (some i))) => .ref (xsa g i)
  | .inr (.inr (.inr none)) => .null
def ro (g : GX) : GV → Option Value
  | .inr (.inr (.inr none)) => none
  | v => some (rv g v)
def rp (st : List GV) : GV → List GV
  | .inr (.inr (.inr none)) => st
  | v => v :: st
def okV : GV → Prop
  | .inl x => inR x
  | .inr (.inl x) => inL x
  | _ => True
def okC : GC → Prop
  | .inl (n, f) => n < 2147483648 ∧ ∀ j, inR (f j)
  | .inr (.inl (_, n, _)) => n < 2147483648
  | .inr (.inr (_, fs)) => ∀ v ∈ fs, okV v
def ce (g : GX) : GC → va_E
  | .inl (n, f) => .inl (xaI g, n, .inl (fun j => Int32.ofInt (f j)))
  | .inr (.inl (ci, n, f)) => .inl (xaR g ci, n, .inr (.inr (.inr (.inr (fun j => (f j).map (fun a => xs0 g + a))))))
  | .inr (.inr (ci, fs)) => .inr (ci, fs.map (rv g))
abbrev gBad : GC := cO 99 []
