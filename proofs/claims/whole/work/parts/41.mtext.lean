/-! ===== the model reads a text ===== -/
def zwdP (B : Nat → Int) (R : ZR) (a b c d : Int) : Prop := R.so = 1 ∧ (B R.fr = a ∧ B (R.fr + 1) = b ∧ B (R.fr + 2) = c) ∧ (d = 0 → R.to = R.fr + 3) ∧ (¬ d = 0 → R.to = R.fr + 4 ∧ B (R.fr + 3) = d)
def zwd (B : Nat → Int) (R : ZR) (a b c d : Int) : Bool := decide (R.so = 1 ∧ (B R.fr = a ∧ B (R.fr + 1) = b ∧ B (R.fr + 2) = c) ∧ (d = 0 → R.to = R.fr + 3) ∧ (¬ d = 0 → R.to = R.fr + 4 ∧ B (R.fr + 3) = d))
theorem zwd_iff {B : Nat → Int} {R : ZR} {a b c d : Int} : zwd B R a b c d = true ↔ zwdP B R a b c d := by unfold zwd; exact decide_eq_true_iff
def zkey (B : Nat → Int) (R : ZR) : Int := if zwd B R 108 111 111 107 = true then 0 else if zwd B R 102 101 101 0 = true then 1 else if zwd B R 102 105 110 101 = true then 2 else -1
def zR0 (B : Nat → Int) (n : Nat) : ZR := ZR.nx ((0, 0, 0, [], 0, true) : ZR) B n
def zR1 (B : Nat → Int) (n : Nat) : ZR := zpar B n (zkey B (zR0 B n)).toNat 800 0 0 0 ((zR0 B n).nx B n)
def zprs (B : Nat → Int) (n : Nat) : ZR := if zkey B (zR0 B n) < 0 then (zR0 B n).bad else if (zR1 B n).ok = true ∧ (zR1 B n).so = 0 then zR1 B n else (zR1 B n).bad
def zcpy (s : Nat → Int) (b : Nat) (l : List Int) : Nat → Nat → Int
  | 0 => s
  | k + 1 => va_up (zcpy s b l k) (b + k) (l.getD k 0)
def zlay0 (s : Nat → Int) (key : Nat) (R : ZR) : Nat → Int := va_up (va_up (va_up (va_up (va_up s 64 (s 64 + 1)) (65 + key) (s 64)) (68 + (s 64).toNat) key) (82 + (s 64).toNat) (R.out.length : Nat)) (96 + (s 64).toNat) (R.pcs : Nat)
def zlay (s : Nat → Int) (key : Nat) (R : ZR) : Nat → Int := zcpy (zlay0 s key R) (110 + 100 * (s 64).toNat) R.out R.out.length
theorem zkey_in (B : Nat → Int) (R : ZR) : -1 ≤ zkey B R ∧ zkey B R ≤ 2 := by unfold zkey; grind
section MTEXT
variable {g : GX} {N r : Nat} {F F1 F2 : Nat → GC} {m m1 m2 : Nat → Nat → Int} {B : Nat → Int} {n : Nat} {R : ZR}
theorem qM_isWord (hM : MOD F r m) (h7 : B = zBT (m 7) n) (h11 : m 17 11 = (n : Int)) (hn : n ≤ 96) (hf : R.fr ≤ 96) (ht : R.to ≤ 96) (e12 : m 17 12 = (R.fr : Nat)) (e13 : m 17 13 = (R.to : Nat)) (e14 : m 17 14 = (R.so : Nat)) (a b c d : Int) : CT g yM_isWord 1 0 0 [gR r, gI a, gI b, gI c, gI d] (N, F) (RV (if zwd B R a b c d = true then 1 else 0) (N, F)) := by
  have ho := hM.1
  have qb : ∀ k : Nat, CT g yM_byteAt 0 0 0 [gR r, gI (k : Int)] (N, F) (RV (B k) (N, F)) := fun k => by rw [h7]; exact qM_byteAt hM rfl h11 hn k
  have t113 : ∀ x : Int, ¬ zwdP B R a b c d → Go g yM_isWord 1 0 0 113 [gR r, gI a, gI b, gI c, gI d, gI x] [] (N, F) (RV (if zwd B R a b c d = true then 1 else 0) (N, F)) := by
    intro x h
    refine go_iconst dM_isWord_113 (inR_of _ rfl) ?_
    refine go_iret dM_isWord_114 rfl (zb (by simp)) ?_
    exact ⟨by rw [if_neg (fun hh => h (zwd_iff.mp hh))], rfl⟩
  have t109 : ∀ x : Int, zwdP B R a b c d → Go g yM_isWord 1 0 0 109 [gR r, gI a, gI b, gI c, gI d, gI x] [] (N, F) (RV (if zwd B R a b c d = true then 1 else 0) (N, F)) := by
    intro x h
    refine go_iconst dM_isWord_109 (inR_of _ rfl) ?_
    refine go_goto 114 dM_isWord_110 rfl ?_
    refine go_iret dM_isWord_114 rfl (zb (by simp)) ?_
    exact ⟨by rw [if_pos (zwd_iff.mpr h)], rfl⟩
  have t45 : ∀ x : Int, (x ≠ 0 ↔ (B R.fr = a ∧ B (R.fr + 1) = b ∧ B (R.fr + 2) = c)) → Go g yM_isWord 1 0 0 45 [gR r, gI a, gI b, gI c, gI d, gU] [gI x] (N, F) (RV (if zwd B R a b c d = true then 1 else 0) (N, F)) := by
    intro x hx
    refine go_is5 dM_isWord_45 (Nat.le_of_ble_eq_true rfl) trivial ?_
    refine go_aload_n (i := 0) dM_isWord_47 rfl rfl trivial ?_
    refine go_getf dM_isWord_48 flM231 (by assumption) rfl ?_
    refine go_iconst dM_isWord_51 (inR_of _ rfl) ?_
    refine go_ic_ne 113 dM_isWord_52 rfl (fun h52 => ?_) (fun h52 => ?_)
    · exact t113 _ (fun h => h52 (by rw [e14, h.1]; rfl))
    · refine go_iload dM_isWord_55 rfl ?_
      refine go_if_eq 113 dM_isWord_57 rfl (fun h57 => ?_) (fun h57 => ?_)
      · exact t113 _ (fun h => hx.mpr h.2.1 h57)
      · have hx1 := hx.mp h57
        refine go_iload dM_isWord_60 rfl ?_
        refine go_if_ne 81 dM_isWord_62 rfl (fun h62 => ?_) (fun h62 => ?_)
        · refine go_aload_n (i := 0) dM_isWord_81 rfl rfl trivial ?_
          refine go_getf dM_isWord_82 flM234 (by assumption) rfl ?_
          refine go_aload_n (i := 0) dM_isWord_85 rfl rfl trivial ?_
          refine go_getf dM_isWord_86 flM237 (by assumption) rfl ?_
          rw [e12, e13]
          refine go_iconst dM_isWord_89 (inR_of _ rfl) ?_
          refine go_iadd dM_isWord_90 ?_
          refine go_top (((R.fr + 4 : Nat) : Int)) (by (try simp (discharger := (unfold inR; omega)) only [w32_id]) <;> omega) ?_
          refine go_ic_ne 113 dM_isWord_91 rfl (fun h91 => ?_) (fun h91 => ?_)
          · exact t113 _ (fun h => by have := (h.2.2.2 h62).1; omega)
          · refine go_aload_n (i := 0) dM_isWord_94 rfl rfl trivial ?_
            refine go_aload_n (i := 0) dM_isWord_95 rfl rfl trivial ?_
            refine go_getf dM_isWord_96 flM237 (by assumption) rfl ?_
            rw [e12]
            refine go_iconst dM_isWord_99 (inR_of _ rfl) ?_
            refine go_iadd dM_isWord_100 ?_
            refine go_top (((R.fr + 3 : Nat) : Int)) (by (try simp (discharger := (unfold inR; omega)) only [w32_id]) <;> omega) ?_
            refine go_VP dM_isWord_101 vkM240 (by assumption) (List.cons_ne_nil _ _) (qb (R.fr + 3)) rfl (by omega) rfl (fun _ => Nat.le_of_ble_eq_true rfl) ?_
            refine go_iload dM_isWord_104 rfl ?_
            refine go_ic_ne 113 dM_isWord_106 rfl (fun h106 => ?_) (fun h106 => ?_)
            · exact t113 _ (fun h => h106 (h.2.2.2 h62).2)
            · exact t109 _ ⟨by omega, hx1, fun h => absurd h h62, fun _ => ⟨by omega, h106⟩⟩
        · refine go_aload_n (i := 0) dM_isWord_65 rfl rfl trivial ?_
          refine go_getf dM_isWord_66 flM234 (by assumption) rfl ?_
          refine go_aload_n (i := 0) dM_isWord_69 rfl rfl trivial ?_
          refine go_getf dM_isWord_70 flM237 (by assumption) rfl ?_
          rw [e12, e13]
          refine go_iconst dM_isWord_73 (inR_of _ rfl) ?_
          refine go_iadd dM_isWord_74 ?_
          refine go_top (((R.fr + 3 : Nat) : Int)) (by (try simp (discharger := (unfold inR; omega)) only [w32_id]) <;> omega) ?_
          refine go_ic_ne 113 dM_isWord_75 rfl (fun h75 => ?_) (fun h75 => ?_)
          · exact t113 _ (fun h => by have := h.2.2.1 h62; omega)
          · refine go_goto 109 dM_isWord_78 rfl ?_
            exact t109 _ ⟨by omega, hx1, fun _ => by omega, fun h => absurd h62 h⟩
  have t44 : ¬ (B R.fr = a ∧ B (R.fr + 1) = b ∧ B (R.fr + 2) = c) → Go g yM_isWord 1 0 0 44 [gR r, gI a, gI b, gI c, gI d, gU] [] (N, F) (RV (if zwd B R a b c d = true then 1 else 0) (N, F)) := by
    intro h
    refine go_iconst dM_isWord_44 (inR_of _ rfl) ?_
    exact t45 _ ⟨fun hh => absurd rfl hh, fun hh => absurd hh h⟩
  refine CT.of' (L0 := [gR r, gI a, gI b, gI c, gI d, gU]) plM (Nat.le_of_ble_eq_true rfl) rfl ?_
  refine go_aload_n (i := 0) dM_isWord_0 rfl rfl trivial ?_
  refine go_aload_n (i := 0) dM_isWord_1 rfl rfl trivial ?_
  refine go_getf dM_isWord_2 flM237 (by assumption) rfl ?_
  rw [e12]
  refine go_VP dM_isWord_5 vkM240 (by assumption) (List.cons_ne_nil _ _) (qb R.fr) rfl (by omega) rfl (fun _ => Nat.le_of_ble_eq_true rfl) ?_
  refine go_iload_n (i := 1) dM_isWord_8 rfl rfl ?_
  refine go_ic_ne 44 dM_isWord_9 rfl (fun h9 => ?_) (fun h9 => ?_)
  · exact t44 (fun h => h9 h.1)
  · refine go_aload_n (i := 0) dM_isWord_12 rfl rfl trivial ?_
    refine go_aload_n (i := 0) dM_isWord_13 rfl rfl trivial ?_
    refine go_getf dM_isWord_14 flM237 (by assumption) rfl ?_
    rw [e12]
    refine go_iconst dM_isWord_17 (inR_of _ rfl) ?_
    refine go_iadd dM_isWord_18 ?_
    refine go_top (((R.fr + 1 : Nat) : Int)) (by (try simp (discharger := (unfold inR; omega)) only [w32_id]) <;> omega) ?_
    refine go_VP dM_isWord_19 vkM240 (by assumption) (List.cons_ne_nil _ _) (qb (R.fr + 1)) rfl (by omega) rfl (fun _ => Nat.le_of_ble_eq_true rfl) ?_
    refine go_iload_n (i := 2) dM_isWord_22 rfl rfl ?_
    refine go_ic_ne 44 dM_isWord_23 rfl (fun h23 => ?_) (fun h23 => ?_)
    · exact t44 (fun h => h23 h.2.1)
    · refine go_aload_n (i := 0) dM_isWord_26 rfl rfl trivial ?_
      refine go_aload_n (i := 0) dM_isWord_27 rfl rfl trivial ?_
      refine go_getf dM_isWord_28 flM237 (by assumption) rfl ?_
      rw [e12]
      refine go_iconst dM_isWord_31 (inR_of _ rfl) ?_
      refine go_iadd dM_isWord_32 ?_
      refine go_top (((R.fr + 2 : Nat) : Int)) (by (try simp (discharger := (unfold inR; omega)) only [w32_id]) <;> omega) ?_
      refine go_VP dM_isWord_33 vkM240 (by assumption) (List.cons_ne_nil _ _) (qb (R.fr + 2)) rfl (by omega) rfl (fun _ => Nat.le_of_ble_eq_true rfl) ?_
      refine go_iload_n (i := 3) dM_isWord_36 rfl rfl ?_
      refine go_ic_ne 44 dM_isWord_37 rfl (fun h37 => ?_) (fun h37 => ?_)
      · exact t44 (fun h => h37 h.2.2)
      · refine go_iconst dM_isWord_40 (inR_of _ rfl) ?_
        refine go_goto 45 dM_isWord_41 rfl ?_
        exact t45 _ ⟨fun _ => ⟨h9, h23, h37⟩, fun _ => by omega⟩
theorem qM_keyHere (hM : MOD F r m) (h7 : B = zBT (m 7) n) (h11 : m 17 11 = (n : Int)) (hn : n ≤ 96) (hf : R.fr ≤ 96) (ht : R.to ≤ 96) (e12 : m 17 12 = (R.fr : Nat)) (e13 : m 17 13 = (R.to : Nat)) (e14 : m 17 14 = (R.so : Nat)) : CT g yM_keyHere 2 0 0 [gR r] (N, F) (RV (zkey B R) (N, F)) := by
  have ho := hM.1
  have qw : ∀ a b c d : Int, CT g yM_isWord 1 0 0 [gR r, gI a, gI b, gI c, gI d] (N, F) (RV (if zwd B R a b c d = true then 1 else 0) (N, F)) := qM_isWord hM h7 h11 hn hf ht e12 e13 e14
  refine CT.of' (L0 := [gR r]) plM (Nat.le_of_ble_eq_true rfl) rfl ?_
  refine go_aload_n (i := 0) dM_keyHere_0 rfl rfl trivial ?_
  refine go_bipush dM_keyHere_1 (inR_of _ rfl) rfl ?_
  refine go_bipush dM_keyHere_3 (inR_of _ rfl) rfl ?_
  refine go_bipush dM_keyHere_5 (inR_of _ rfl) rfl ?_
  refine go_bipush dM_keyHere_7 (inR_of _ rfl) rfl ?_
  refine go_VP dM_keyHere_9 vkM256 (by assumption) (List.cons_ne_nil _ _) (qw 108 111 111 107) rfl (by omega) rfl (fun _ => Nat.le_of_ble_eq_true rfl) ?_
  refine go_if_eq 19 dM_keyHere_12 rfl (fun h12 => ?_) (fun h12 => ?_)
  · refine go_aload_n (i := 0) dM_keyHere_19 rfl rfl trivial ?_
    refine go_bipush dM_keyHere_20 (inR_of _ rfl) rfl ?_
    refine go_bipush dM_keyHere_22 (inR_of _ rfl) rfl ?_
    refine go_bipush dM_keyHere_24 (inR_of _ rfl) rfl ?_
    refine go_iconst dM_keyHere_26 (inR_of _ rfl) ?_
    refine go_VP dM_keyHere_27 vkM256 (by assumption) (List.cons_ne_nil _ _) (qw 102 101 101 0) rfl (by omega) rfl (fun _ => Nat.le_of_ble_eq_true rfl) ?_
    refine go_if_eq 37 dM_keyHere_30 rfl (fun h30 => ?_) (fun h30 => ?_)
    · refine go_aload_n (i := 0) dM_keyHere_37 rfl rfl trivial ?_
      refine go_bipush dM_keyHere_38 (inR_of _ rfl) rfl ?_
      refine go_bipush dM_keyHere_40 (inR_of _ rfl) rfl ?_
      refine go_bipush dM_keyHere_42 (inR_of _ rfl) rfl ?_
      refine go_bipush dM_keyHere_44 (inR_of _ rfl) rfl ?_
      refine go_VP dM_keyHere_46 vkM256 (by assumption) (List.cons_ne_nil _ _) (qw 102 105 110 101) rfl (by omega) rfl (fun _ => Nat.le_of_ble_eq_true rfl) ?_
      refine go_if_eq 56 dM_keyHere_49 rfl (fun h49 => ?_) (fun h49 => ?_)
      · refine go_iconst dM_keyHere_56 (inR_of _ rfl) ?_
        refine go_iret dM_keyHere_57 rfl rfl ?_
        exact ⟨by unfold zkey; rw [if_neg (sgN h12), if_neg (sgN h30), if_neg (sgN h49)], rfl⟩
      · refine go_iconst dM_keyHere_52 (inR_of _ rfl) ?_
        refine go_goto 57 dM_keyHere_53 rfl ?_
        refine go_iret dM_keyHere_57 rfl rfl ?_
        exact ⟨by unfold zkey; rw [if_neg (sgN h12), if_neg (sgN h30), if_pos (sgP h49)], rfl⟩
    · refine go_iconst dM_keyHere_33 (inR_of _ rfl) ?_
      refine go_goto 57 dM_keyHere_34 rfl ?_
      refine go_iret dM_keyHere_57 rfl rfl ?_
      exact ⟨by unfold zkey; rw [if_neg (sgN h12), if_pos (sgP h30)], rfl⟩
  · refine go_iconst dM_keyHere_15 (inR_of _ rfl) ?_
    refine go_goto 57 dM_keyHere_16 rfl ?_
    refine go_iret dM_keyHere_57 rfl rfl ?_
    exact ⟨by unfold zkey; rw [if_pos (sgP h12)], rfl⟩
/-- what a text was read as -/
def PX (r : Nat) (F : Nat → GC) (m : Nat → Nat → Int) (R : ZR) (key : Int) (F2 : Nat → GC) (m2 : Nat → Nat → Int) : Prop := MOD F2 r m2 ∧ FR r F F2 ∧ SB [8, 17] m m2 ∧ (∀ j : Nat, j < 12 → m2 17 j = m 17 j) ∧ m2 17 12 = (R.fr : Nat) ∧ m2 17 20 = (if R.ok = true then 0 else 1) ∧ (R.ok = true → m2 17 19 = key ∧ m2 17 15 = (R.out.length : Nat) ∧ m2 17 16 = (R.pcs : Nat) ∧ ∀ k : Nat, k < R.out.length → m2 8 k = R.out.getD k 0)
theorem qM_parses (hM : MOD F r m) (h7 : B = zBT (m 7) n) (h11 : m 17 11 = (n : Int)) (hB : BYT B n) : CT g yM_parses 99 0 0 [gR r] (N, F) (fun rr M' => rr = gU ∧ ∃ (F2 : Nat → GC) (m2 : Nat → Nat → Int), M' = (N, F2) ∧ PX r F m (zprs B n) (zkey B (zR0 B n)) F2 m2) := by
  have hn := hB.1
  refine CT.of' (L0 := [gR r]) plM (Nat.le_of_ble_eq_true rfl) rfl ?_
  refine go_aload_n (i := 0) dM_parses_0 rfl rfl trivial ?_
  refine go_iconst dM_parses_1 (inR_of _ rfl) ?_
  refine go_mpf hM (hM.f20 _) dM_parses_2 flM249 rfl rfl (fun F1 m1 hM1 hF1 e1 => ?_)
  refine go_aload_n (i := 0) dM_parses_5 rfl rfl trivial ?_
  refine go_iconst dM_parses_6 (inR_of _ rfl) ?_
  refine go_mpf hM1 (hM1.f13 _) dM_parses_7 flM234 rfl rfl (fun F2 m2 hM2 hF2 e2 => ?_)
  refine go_aload_n (i := 0) dM_parses_10 rfl rfl trivial ?_
  refine go_iconst dM_parses_11 (inR_of _ rfl) ?_
  refine go_mpf hM2 (hM2.f14 _) dM_parses_12 flM231 rfl rfl (fun F3 m3 hM3 hF3 e3 => ?_)
  refine go_aload_n (i := 0) dM_parses_15 rfl rfl trivial ?_
  refine go_iconst dM_parses_16 (inR_of _ rfl) ?_
  refine go_mpf hM3 (hM3.f15 _) dM_parses_17 flM253 rfl rfl (fun F4 m4 hM4 hF4 e4 => ?_)
  refine go_aload_n (i := 0) dM_parses_20 rfl rfl trivial ?_
  refine go_iconst dM_parses_21 (inR_of _ rfl) ?_
  refine go_mpf hM4 (hM4.f16 _) dM_parses_22 flM266 rfl rfl (fun F5 m5 hM5 hF5 e5 => ?_)
  refine go_aload_n (i := 0) dM_parses_25 rfl rfl trivial ?_
  refine go_iconst dM_parses_26 (inR_of _ rfl) ?_
  refine go_mpf hM5 (hM5.f17 _) dM_parses_27 flM272 rfl rfl (fun F6 m6 hM6 hF6 e6 => ?_)
  refine go_aload_n (i := 0) dM_parses_30 rfl rfl trivial ?_
  refine go_iconst dM_parses_31 (inR_of _ rfl) ?_
  refine go_mpf hM6 (hM6.f18 _) dM_parses_32 flM284 rfl rfl (fun F7 m7 hM7 hF7 e7 => ?_)
  have hF7 := ((((((hF1.tr hF2).tr hF3).tr hF4).tr hF5).tr hF6).tr hF7)
  have hS7 : SB [8, 17] m m7 := by
    rw [e7, e6, e5, e4, e3, e2, e1]
    exact ((((((SB.rf.put (by simp)).put (by simp)).put (by simp)).put (by simp)).put (by simp)).put (by simp)).put (by simp)
  have k7 : m7 17 = va_up (va_up (va_up (va_up (va_up (va_up (va_up (m 17) 20 0) 13 0) 14 0) 15 0) 16 0) 17 0) 18 0 := by
    rw [e7, e6, e5, e4, e3, e2, e1]; rfl
  have j7 : ∀ j : Nat, j < 12 → m7 17 j = m 17 j := by
    intro j hj
    rw [k7, va_up_ne _ _ (by omega), va_up_ne _ _ (by omega), va_up_ne _ _ (by omega), va_up_ne _ _ (by omega), va_up_ne _ _ (by omega), va_up_ne _ _ (by omega), va_up_ne _ _ (by omega)]
  have ho7 := hM7.1
  have h77 : m7 7 = m 7 := hS7 7 (by decide)
  have h711 : m7 17 11 = (n : Int) := (j7 11 (by omega)).trans h11
  have hw0 : ZR.wf ((0, 0, 0, [], 0, true) : ZR) n := ⟨Nat.le_refl _, Nat.zero_le _, fun h => absurd rfl h, Nat.zero_le _⟩
  obtain ⟨hwR, -⟩ := ZR.nx_wf hB hw0
  have hwR : (zR0 B n).wf n := hwR
  refine go_aload_n (i := 0) dM_parses_35 rfl rfl trivial ?_
  refine go_VX dM_parses_36 vkM269 (by assumption) (List.cons_ne_nil _ _) (qM_next hM7 (T := m 7) (n := n) (to := 0) (so := 0) h77 h711 (by rw [← h7]; exact hB) (by rw [k7]; rfl) (by omega) (by rw [k7]; rfl)) rfl (by omega) (by omega) (by omega) rfl (fun _ => Nat.le_of_ble_eq_true rfl) ?_
  rintro _ _ ⟨rfl, F8, m8, rfl, h8, e812, e813, e814⟩ -
  dsimp only [rp]
  rw [← h7] at e812 e813 e814
  have e812 : m8 17 12 = ((zR0 B n).fr : Nat) := e812
  have e813 : m8 17 13 = ((zR0 B n).to : Nat) := e813
  have e814 : m8 17 14 = ((zR0 B n).so : Nat) := e814
  have hM8 := h8.1
  have ho8 := hM8.1
  have h87 : m8 7 = m 7 := (h8.2.2.1 7 (by decide)).trans h77
  have h811 : m8 17 11 = (n : Int) := (h8.2.2.2 11 (by omega) (by omega) (by omega)).trans h711
  have hr1 := hwR.1
  have hr2 := hwR.2.1
  have kin := zkey_in B (zR0 B n)
  refine go_aload_n (i := 0) dM_parses_39 rfl rfl trivial ?_
  refine go_aload_n (i := 0) dM_parses_40 rfl rfl trivial ?_
  refine go_VP dM_parses_41 vkM314 (by assumption) (List.cons_ne_nil _ _) (qM_keyHere (B := B) (R := zR0 B n) hM8 (h7.trans (by rw [h87])) h811 hn (by omega) (by omega) e812 e813 e814) rfl (by omega) rfl (fun _ => Nat.le_of_ble_eq_true rfl) ?_
  refine go_mpf hM8 (hM8.f19 _) dM_parses_44 flM260 rfl rfl (fun F9 m9 hM9 hF9 e9 => ?_)
  have ho9 := hM9.1
  have k9 : m9 17 = va_up (m8 17) 19 (zkey B (zR0 B n)) := by rw [e9]; rfl
  have h919 : m9 17 19 = zkey B (zR0 B n) := by rw [k9]; rfl
  have f9 : ∀ j : Nat, j ≠ 12 → j ≠ 13 → j ≠ 14 → j ≠ 19 → m9 17 j = m7 17 j := fun j h1 h2 h3 h4 => by
    rw [k9, va_up_ne _ _ h4]; exact h8.2.2.2 j h1 h2 h3
  have hS9 : SB [8, 17] m m9 := by rw [e9]; exact (hS7.tr (h8.2.2.1.mono (by simp))).put (by simp)
  have hF9 : FR r F F9 := (hF7.tr h8.2.1).tr hF9
  have h9 : PST r F9 m9 (zR0 B n) 0 0 F9 m9 := by
    refine ⟨hM9, FR.rf, SB.rf, fun _ _ => rfl, ⟨?_, ?_, ?_⟩, ⟨?_, ?_⟩, ?_, fun _ => ⟨?_, ?_⟩, fun k hk => absurd hk (Nat.not_lt_zero _)⟩
    · rw [k9]; exact e812
    · rw [k9]; exact e813
    · rw [k9]; exact e814
    · rw [f9 15 (by omega) (by omega) (by omega) (by omega), k7]; rfl
    · rw [f9 16 (by omega) (by omega) (by omega) (by omega), k7]; rfl
    · rw [f9 20 (by omega) (by omega) (by omega) (by omega), k7]; rfl
    · rw [f9 17 (by omega) (by omega) (by omega) (by omega), k7]; rfl
    · rw [f9 18 (by omega) (by omega) (by omega) (by omega), k7]; rfl
  refine go_aload_n (i := 0) dM_parses_47 rfl rfl trivial ?_
  refine go_getf dM_parses_48 flM260 (by assumption) rfl ?_
  rw [h919]
  refine go_if_ge 59 dM_parses_51 rfl (fun h51 => ?_) (fun h51 => ?_)
  · have hz : zprs B n = if (zR1 B n).ok = true ∧ (zR1 B n).so = 0 then zR1 B n else (zR1 B n).bad := by unfold zprs; rw [if_neg (by omega)]
    have hE : PE m9 B n (zkey B (zR0 B n)).toNat := ⟨by rw [hS9 7 (by decide)]; exact h7, by rw [f9 11 (by omega) (by omega) (by omega) (by omega)]; exact h711, hB, by rw [h919]; omega, by omega⟩
    have hI9 : PI r F9 m9 B n (zR0 B n) 0 0 F9 m9 := ⟨h9, hwR, ZR.nx_wd _ B n, rfl, Nat.zero_le _, Nat.zero_le _⟩
    refine go_aload_n (i := 0) dM_parses_59 rfl rfl trivial ?_
    refine go_VX dM_parses_60 vkM269 (by assumption) (List.cons_ne_nil _ _) (h9.next hE hwR) rfl (by omega) (by omega) (by omega) rfl (fun _ => Nat.le_of_ble_eq_true rfl) ?_
    rintro _ _ ⟨rfl, Fa, ma, rfl, ha⟩ -
    dsimp only [rp]
    have hIa := hI9.nx hB ha
    have hoa := ha.1.1
    have hpar := (pM_par (g := g) (N := N) (r := r) (F := F9) hE 800).1
    refine go_aload_n (i := 0) dM_parses_63 rfl rfl trivial ?_
    refine go_VX dM_parses_64 vkM278 (by assumption) (List.cons_ne_nil _ _) (hpar 0 0 0 _ Fa ma (by omega) (by omega) (by omega) hIa (by omega)) rfl (by omega) (by omega) (by omega) rfl (fun _ => Nat.le_of_ble_eq_true rfl) ?_
    rintro _ _ ⟨rfl, Fb, mb, rfl, hb⟩ -
    dsimp only [rp]
    have hb : PST r F9 m9 (zR1 B n) 0 0 Fb mb := hb
    rw [hz]
    generalize zR1 B n = R1 at hb ⊢
    have hMb := hb.1
    have hob := hb.1.1
    have eb20 := hb.2.2.2.2.2.2.1
    have eb14 := hb.2.2.2.2.1.2.2
    have jb : ∀ j : Nat, j < 12 → mb 17 j = m 17 j := fun j hj => by
      rw [hb.2.2.2.1 j (by omega), f9 j (by omega) (by omega) (by omega) (by omega)]; exact j7 j hj
    have t82 : ¬ (R1.ok = true ∧ R1.so = 0) → Go g yM_parses 99 0 0 82 [gR r] [gR r] (N, Fb) (fun rr M' => rr = gU ∧ ∃ (F2 : Nat → GC) (m2 : Nat → Nat → Int), M' = (N, F2) ∧ PX r F m (if R1.ok = true ∧ R1.so = 0 then R1 else R1.bad) (zkey B (zR0 B n)) F2 m2) := by
      intro hc
      rw [if_neg hc]
      refine go_iconst dM_parses_82 (inR_of _ rfl) ?_
      refine go_goto 87 dM_parses_83 rfl ?_
      refine go_mpf hMb (hMb.f20 _) dM_parses_87 flM249 rfl rfl (fun F11 m11 hM11 hF11 e11 => ?_)
      refine go_vret dM_parses_90 rfl ?_
      refine ⟨rfl, F11, m11, rfl, hM11, (hF9.tr hb.2.1).tr hF11, by rw [e11]; exact (hS9.tr hb.2.2.1).put (by simp), fun j hj => ?_, ?_, ?_, fun hh => by simp [ZR.bad, ZR.ok] at hh⟩
      · rw [e11]
        show va_up (mb 17) 20 _ j = _
        rw [va_up_ne _ _ (by omega)]; exact jb j hj
      · rw [e11]; exact hb.2.2.2.2.1.1
      · rw [e11]; rfl
    refine go_aload_n (i := 0) dM_parses_67 rfl rfl trivial ?_
    refine go_aload_n (i := 0) dM_parses_68 rfl rfl trivial ?_
    refine go_getf dM_parses_69 flM249 (by assumption) rfl ?_
    rw [eb20]
    by_cases hok : R1.ok = true
    · rw [if_pos hok]
      refine go_if_ne 82 dM_parses_72 rfl (fun h72 => absurd h72 (fun h => h rfl)) (fun h72 => ?_)
      refine go_aload_n (i := 0) dM_parses_75 rfl rfl trivial ?_
      refine go_getf dM_parses_76 flM231 (by assumption) rfl ?_
      rw [eb14]
      refine go_if_eq 86 dM_parses_79 rfl (fun h79 => ?_) (fun h79 => ?_)
      · have hc : R1.ok = true ∧ R1.so = 0 := ⟨hok, by omega⟩
        rw [if_pos hc]
        refine go_iconst dM_parses_86 (inR_of _ rfl) ?_
        refine go_mpf hMb (hMb.f20 _) dM_parses_87 flM249 rfl rfl (fun F11 m11 hM11 hF11 e11 => ?_)
        refine go_vret dM_parses_90 rfl ?_
        refine ⟨rfl, F11, m11, rfl, hM11, (hF9.tr hb.2.1).tr hF11, by rw [e11]; exact (hS9.tr hb.2.2.1).put (by simp), fun j hj => ?_, ?_, ?_, fun hh => ⟨?_, ?_, ?_, fun k hk => ?_⟩⟩
        · rw [e11]
          show va_up (mb 17) 20 _ j = _
          rw [va_up_ne _ _ (by omega)]; exact jb j hj
        · rw [e11]; exact hb.2.2.2.2.1.1
        · rw [e11, if_pos hok]; rfl
        · rw [e11]
          show mb 17 19 = _
          rw [hb.2.2.2.1 19 (by omega)]; exact h919
        · rw [e11]; exact hb.2.2.2.2.2.1.1
        · rw [e11]; exact hb.2.2.2.2.2.1.2
        · rw [e11]; exact hb.2.2.2.2.2.2.2.2 k hk
      · exact t82 (fun h => by omega)
    · rw [if_neg hok]
      refine go_if_ne 82 dM_parses_72 rfl (fun h72 => ?_) (fun h72 => ?_)
      · exact t82 (fun h => hok h.1)
      · omega
  · have hz : zprs B n = (zR0 B n).bad := by unfold zprs; rw [if_pos (by omega)]
    rw [hz]
    refine go_aload_n (i := 0) dM_parses_54 rfl rfl trivial ?_
    refine go_VX dM_parses_55 vkM275 (by assumption) (List.cons_ne_nil _ _) (pM_wrong h9) rfl (by omega) (by omega) (by omega) rfl (fun _ => Nat.le_of_ble_eq_true rfl) ?_
    rintro _ _ ⟨rfl, Fb, mb, rfl, hb⟩ -
    dsimp only [rp]
    refine go_vret dM_parses_58 rfl ?_
    refine ⟨rfl, Fb, mb, rfl, hb.1, hF9.tr hb.2.1, hS9.tr hb.2.2.1, fun j hj => ?_, hb.2.2.2.2.1.1, hb.2.2.2.2.2.2.1, fun hh => by simp [ZR.bad, ZR.ok] at hh⟩
    rw [hb.2.2.2.1 j (by omega), f9 j (by omega) (by omega) (by omega) (by omega)]; exact j7 j hj
end MTEXT
