/-! ===== the JDK's small functions ===== -/
theorem plA : plainName "GooseCounty" = true := by decide +kernel
theorem plB : plainName "GooseCounty$County" = true := by decide +kernel
theorem plG : plainName "GooseCounty$Goose" = true := by decide +kernel
theorem plL : plainName "GooseCounty$Law" = true := by decide +kernel
theorem plR : plainName "GooseCounty$Reader" = true := by decide +kernel
theorem plS : plainName "GooseCounty$Sheet" = true := by decide +kernel
theorem plT : plainName "GooseCounty$Slot" = true := by decide +kernel
theorem plM : plainName "GooseCountyModel" = true := by decide +kernel
theorem plJS : plainName "java/lang/String" = true := by decide +kernel
theorem plJL : plainName "java/lang/StringLatin1" = true := by decide +kernel
theorem plJA : plainName "java/util/Arrays" = true := by decide +kernel
theorem plJI : plainName "java/lang/Integer" = true := by decide +kernel
theorem plJP : plainName "jdk/internal/util/Preconditions" = true := by decide +kernel
theorem cm_max : Cond.code Lib.Math.max.name Lib.Math.max.code 2 (some .int) ∈ gw := gw2 69 (by decide +kernel) rfl
theorem cm_min : Cond.code Lib.Math.min.name Lib.Math.min.code 2 (some .int) ∈ gw := gw2 145 (by decide +kernel) rfl
theorem cm_abs : Cond.code Lib.Math.abs.name Lib.Math.abs.code 1 (some .int) ∈ gw := gw3 57 (by decide +kernel) rfl
def iMax (a b : Int) : Int := if a < b then b else a
def iMin (a b : Int) : Int := if b < a then b else a
def iAbs (a : Int) : Int := if 0 ≤ a then a else w32 (0 - a)
section JDKS
variable {g : GX} {y : GY} {d bc bs pc : Nat} {L st : List GV} {N : Nat} {F : Nat → GC} {M : GM} {Q : GV → GM → Prop}
theorem go_mmax {idx : Nat} {a b : Int} (hd : decode y.2.1 pc = .ok (.invokestatic idx, 3)) (hk : SK y.1.cls idx yJM_max 2) (h8 : cat8 st) (hdd : 1 ≤ d) (k : Go g y d bc bs (pc + 3) L (gI (iMax a b) :: st) M Q) : Go g y d bc bs pc L (gI b :: gI a :: st) M Q := by
  intro p e R s m args below meth c H locs cells slots ls Z C hRT hr hM hl hs
  have hts := C.2.2.2.2.1
  have hb : inR b := okh hs
  have ha : inR a := okh (okt hs)
  have hx : inR (iMax a b) := by unfold iMax; split <;> assumption
  have hW := k.use C hRT hr hM hl (okc hx (okt (okt hs)))
  have h9 := h8 g
  refine va_mmax C.1 C.2.1 (by rw [C.2.2.1]; exact hl.1.symm) C.2.2.2.1 (hts _ hk.2.2) (hts _ hk.2.1) (hts _ hk.1.2.1) (hts _ cm_max) (by omega) (by omega) (by omega) (by omega) hd ?_
  have e1 : (if Int32.ofInt a < Int32.ofInt b then Int32.ofInt b else Int32.ofInt a) = Int32.ofInt (iMax a b) := by
    unfold iMax
    simp only [gi_lt ha hb]
    split <;> rfl
  rw [e1]
  exact hW
theorem go_mmin {idx : Nat} {a b : Int} (hd : decode y.2.1 pc = .ok (.invokestatic idx, 3)) (hk : SK y.1.cls idx yJM_min 2) (h8 : cat8 st) (hdd : 1 ≤ d) (k : Go g y d bc bs (pc + 3) L (gI (iMin a b) :: st) M Q) : Go g y d bc bs pc L (gI b :: gI a :: st) M Q := by
  intro p e R s m args below meth c H locs cells slots ls Z C hRT hr hM hl hs
  have hts := C.2.2.2.2.1
  have hb : inR b := okh hs
  have ha : inR a := okh (okt hs)
  have hx : inR (iMin a b) := by unfold iMin; split <;> assumption
  have hW := k.use C hRT hr hM hl (okc hx (okt (okt hs)))
  have h9 := h8 g
  refine va_mmin C.1 C.2.1 (by rw [C.2.2.1]; exact hl.1.symm) C.2.2.2.1 (hts _ hk.2.2) (hts _ hk.2.1) (hts _ hk.1.2.1) (hts _ cm_min) (by omega) (by omega) (by omega) (by omega) hd ?_
  have e1 : (if Int32.ofInt b < Int32.ofInt a then Int32.ofInt b else Int32.ofInt a) = Int32.ofInt (iMin a b) := by
    unfold iMin
    simp only [gi_lt hb ha]
    split <;> rfl
  rw [e1]
  exact hW
theorem go_mabs {idx : Nat} {a : Int} (hd : decode y.2.1 pc = .ok (.invokestatic idx, 3)) (hk : SK y.1.cls idx yJM_abs 1) (h8 : cat8 st) (hdd : 1 ≤ d) (k : Go g y d bc bs (pc + 3) L (gI (iAbs a) :: st) M Q) : Go g y d bc bs pc L (gI a :: st) M Q := by
  intro p e R s m args below meth c H locs cells slots ls Z C hRT hr hM hl hs
  have hts := C.2.2.2.2.1
  have ha : inR a := okh hs
  have hx : inR (iAbs a) := by
    unfold iAbs
    split
    · exact ha
    · exact w32_in _
  have hW := k.use C hRT hr hM hl (okc hx (okt hs))
  have h9 := h8 g
  refine va_mabs C.1 C.2.1 (by rw [C.2.2.1]; exact hl.1.symm) C.2.2.2.1 (hts _ hk.2.2) (hts _ hk.2.1) (hts _ hk.1.2.1) (hts _ cm_abs) (by omega) (by omega) (by omega) (by omega) hd ?_
  have e1 : (if 0 ≤ Int32.ofInt a then Int32.ofInt a else 0 - Int32.ofInt a) = Int32.ofInt (iAbs a) := by
    unfold iAbs
    simp only [gi_ge0 ha]
    split
    · rfl
    · rw [gi_w32, Int32.ofInt_sub]; rfl
  rw [e1]
  exact hW
end JDKS
