/-! ===== the model when it is new ===== -/
def mA (i : Nat) : Nat → Int := if i = 9 then m9 else fun _ => 0
def PM (F0 F : Nat → GC) (r k : Nat) (fs : List GV) : Prop := F r = cO 7 fs ∧ (∀ i : Nat, i < k → F (r + 1 + i) = cI (mLen i) (mA i)) ∧ ∀ j : Nat, j < r → F j = F0 j
def zi1 (i k : Nat) : Int := if k = 1 then 20 else if k = 7 then 1 else if 8 ≤ k ∧ k < 8 + i then 2 else 0
def zi2 (i k : Nat) : Int := if k = 1 then 20 else if k = 7 then 1 else if 8 ≤ k ∧ k < 14 then 2 else if 65 ≤ k ∧ k < 65 + i then -1 else 0
theorem zi1_up (i : Nat) : va_up (zi1 i) (8 + i) 2 = zi1 (i + 1) := by
  funext k
  unfold zi1
  by_cases q : k = 8 + i
  · subst q; rw [va_up_self, if_neg (by omega), if_neg (by omega), if_pos (by omega)]
  · rw [va_up_ne _ _ q]
    by_cases c : 8 ≤ k ∧ k < 8 + i
    · rw [if_pos c, if_pos (show 8 ≤ k ∧ k < 8 + (i + 1) by omega)]
    · rw [if_neg c, if_neg (show ¬ (8 ≤ k ∧ k < 8 + (i + 1)) by omega)]
theorem zi2_up (i : Nat) : va_up (zi2 i) (65 + i) (-1) = zi2 (i + 1) := by
  funext k
  unfold zi2
  by_cases q : k = 65 + i
  · subst q; rw [va_up_self, if_neg (by omega), if_neg (by omega), if_neg (by omega), if_pos (by omega)]
  · rw [va_up_ne _ _ q]
    by_cases c : 65 ≤ k ∧ k < 65 + i
    · rw [if_pos c, if_pos (show 65 ≤ k ∧ k < 65 + (i + 1) by omega)]
    · rw [if_neg c, if_neg (show ¬ (65 ≤ k ∧ k < 65 + (i + 1)) by omega)]
theorem zi1_0 : va_up (va_up (fun _ => 0) 1 20) 7 1 = zi1 0 := by
  funext k
  unfold zi1
  by_cases q : k = 7
  · subst q; rw [va_up_self]; rfl
  · rw [va_up_ne _ _ q]
    by_cases q1 : k = 1
    · subst q1; rw [va_up_self]; rfl
    · rw [va_up_ne _ _ q1, if_neg q1, if_neg q, if_neg (by omega)]
theorem zi12 : zi1 6 = zi2 0 := by
  funext k
  unfold zi1 zi2
  rw [if_neg (show ¬ (65 ≤ k ∧ k < 65 + 0) by omega)]
theorem zi2_z0 : zi2 3 = z0 := rfl
theorem m0_eq : va_up mA 0 z0 = m0 := by
  funext i
  by_cases q : i = 0
  · subst q; rw [va_up_self]; rfl
  · rw [va_up_ne _ _ q]
    unfold mA m0
    rw [if_neg q]
theorem m9_eq : va_up (va_up (va_up (va_up (va_up (va_up (va_up (va_up (va_up (fun _ => (0 : Int)) 0 (-1)) 1 (-1)) 2 (-1)) 3 (-1)) 4 (-1)) 5 (-1)) 6 (-1)) 7 (-1)) 8 (-1) = m9 := by
  funext k
  unfold m9
  by_cases c : k < 9
  · rw [if_pos c]
    have : k = 0 ∨ k = 1 ∨ k = 2 ∨ k = 3 ∨ k = 4 ∨ k = 5 ∨ k = 6 ∨ k = 7 ∨ k = 8 := by omega
    rcases this with rfl | rfl | rfl | rfl | rfl | rfl | rfl | rfl | rfl <;> rfl
  · rw [if_neg c, va_up_ne _ _ (by omega), va_up_ne _ _ (by omega), va_up_ne _ _ (by omega), va_up_ne _ _ (by omega), va_up_ne _ _ (by omega), va_up_ne _ _ (by omega), va_up_ne _ _ (by omega), va_up_ne _ _ (by omega), va_up_ne _ _ (by omega)]
section MINIT
variable {g : GX} {F0 F : Nat → GC} {r : Nat}
theorem go_ms {d bc bs pc idx j k : Nat} {n : Int} {fs L st : List GV} {Q : GV → GM → Prop} (h : PM F0 F r k fs) (hk9 : k ≠ 9) (hd1 : decode yM_init.2.1 pc = .ok (.newarray .int, 2)) (hd2 : decode yM_init.2.1 (pc + 2) = .ok (.putfield idx, 3)) (hf : FL "GooseCountyModel" idx 7 j (.array .int) true) (hj : j < fs.length) (hn : n = (mLen k : Int)) (h1 : mLen k < 100000) (hbc : 1 ≤ bc) (hbs : mLen k ≤ bs) (kk : ∀ F' : Nat → GC, PM F0 F' r (k + 1) (fs.set j (gR (r + 1 + k))) → Go g yM_init d (bc - 1) (bs - mLen k) (pc + 5) L st (r + 1 + (k + 1), F') Q) : Go g yM_init d bc bs pc L (gI n :: gR r :: st) (r + 1 + k, F) Q := by
  subst hn
  refine go_mnew hd1 hd2 hf rfl rfl (by omega) h.1 hj (by omega) (by omega) hbc (by rw [Int.toNat_natCast]; exact hbs) ?_
  intro F' e1 e2 e3
  rw [Int.toNat_natCast] at e2 ⊢
  refine kk F' ⟨e1, fun i hi => ?_, fun i hi => by rw [e3 i (by omega) (by omega)]; exact h.2.2 i hi⟩
  by_cases q : i = k
  · subst q
    rw [e2]
    unfold mA
    rw [if_neg hk9]
  · rw [e3 _ (by omega) (by omega)]; exact h.2.1 i (by omega)
theorem qM_init (h : F r = cO 7 [gN, gN, gN, gN, gN, gN, gI 0, gI 0, gN, gN, gN, gI 0, gI 0, gI 0, gI 0, gI 0, gI 0, gI 0, gI 0, gI 0, gI 0, gN, gN, gN, gN, gN, gN, gN, gN]) : CT g yM_init 1 17 5300 [gR r] (r + 1, F) (fun rr M' => rr = gU ∧ ∃ F2 : Nat → GC, M' = (r + 18, F2) ∧ MOD F2 r m0 ∧ ∀ j : Nat, j < r → F2 j = F j) := by
  have loop2 : ∀ (j i : Nat), i + j = 3 → ∀ F1 : Nat → GC, MOD F1 r (va_up mA 0 (zi2 i)) → (∀ k : Nat, k < r → F1 k = F k) → Go g yM_init 1 0 0 222 [gR r, gI (i : Int)] [] (r + 18, F1) (fun rr M' => rr = gU ∧ ∃ F2 : Nat → GC, M' = (r + 18, F2) ∧ MOD F2 r m0 ∧ ∀ j : Nat, j < r → F2 j = F j) := by
    intro j
    induction j with
    | zero =>
      intro i hi F1 hM hF
      have hi3 : i = 3 := by omega
      subst hi3
      refine go_iload_n (i := 1) dM_init_222 rfl rfl ?_
      refine go_iconst dM_init_223 (inR_of _ rfl) ?_
      refine go_ic_ge 243 dM_init_224 rfl (fun h224 => ?_) (fun h224 => absurd (by omega) h224)
      refine go_vret dM_init_243 rfl ?_
      rw [zi2_z0, m0_eq] at hM
      exact ⟨rfl, F1, rfl, hM, hF⟩
    | succ j ih =>
      intro i hi F1 hM hF
      have ho := hM.1
      refine go_iload_n (i := 1) dM_init_222 rfl rfl ?_
      refine go_iconst dM_init_223 (inR_of _ rfl) ?_
      refine go_ic_ge 243 dM_init_224 rfl (fun h224 => absurd h224 (by omega)) (fun h224 => ?_)
      refine go_aload_n (i := 0) dM_init_227 rfl rfl trivial ?_
      refine go_getf dM_init_228 flM7 (by assumption) rfl ?_
      refine go_bipush dM_init_231 (inR_of _ rfl) rfl ?_
      refine go_iload_n (i := 1) dM_init_233 rfl rfl ?_
      refine go_iadd dM_init_234 ?_
      refine go_top (((65 + i : Nat) : Int)) (by (try simp (discharger := (unfold inR; omega)) only [w32_id]) <;> omega) ?_
      refine go_iconst dM_init_235 (inR_of _ rfl) ?_
      refine go_mst (i := 0) (k := 65 + i) hM (by omega) dM_init_236 rfl rfl (by show _ < 1510; omega) ?_
      intro F2 m2 hM2 hF2 e2
      refine go_inc1 (((i + 1 : Nat) : Int)) dM_init_237 (Nat.le_of_ble_eq_true rfl) trivial (by (try simp (discharger := (unfold inR; omega)) only [w32_id]) <;> omega) ?_
      refine go_goto 222 dM_init_240 rfl ?_
      refine ih (i + 1) (by omega) F2 ?_ (fun k hk => by rw [hF2 k (by omega)]; exact hF k hk)
      rw [e2, va_up_self, va_up_up, zi2_up] at hM2
      exact hM2
  have loop1 : ∀ (j i : Nat), i + j = 6 → ∀ F1 : Nat → GC, MOD F1 r (va_up mA 0 (zi1 i)) → (∀ k : Nat, k < r → F1 k = F k) → Go g yM_init 1 0 0 198 [gR r, gI (i : Int)] [] (r + 18, F1) (fun rr M' => rr = gU ∧ ∃ F2 : Nat → GC, M' = (r + 18, F2) ∧ MOD F2 r m0 ∧ ∀ j : Nat, j < r → F2 j = F j) := by
    intro j
    induction j with
    | zero =>
      intro i hi F1 hM hF
      have hi6 : i = 6 := by omega
      subst hi6
      refine go_iload_n (i := 1) dM_init_198 rfl rfl ?_
      refine go_bipush dM_init_199 (inR_of _ rfl) rfl ?_
      refine go_ic_ge 220 dM_init_201 rfl (fun h201 => ?_) (fun h201 => absurd (by omega) h201)
      refine go_iconst dM_init_220 (inR_of _ rfl) ?_
      refine go_is1 dM_init_221 (Nat.le_of_ble_eq_true rfl) trivial ?_
      rw [zi12] at hM
      exact loop2 3 0 rfl F1 hM hF
    | succ j ih =>
      intro i hi F1 hM hF
      have ho := hM.1
      refine go_iload_n (i := 1) dM_init_198 rfl rfl ?_
      refine go_bipush dM_init_199 (inR_of _ rfl) rfl ?_
      refine go_ic_ge 220 dM_init_201 rfl (fun h201 => absurd h201 (by omega)) (fun h201 => ?_)
      refine go_aload_n (i := 0) dM_init_204 rfl rfl trivial ?_
      refine go_getf dM_init_205 flM7 (by assumption) rfl ?_
      refine go_bipush dM_init_208 (inR_of _ rfl) rfl ?_
      refine go_iload_n (i := 1) dM_init_210 rfl rfl ?_
      refine go_iadd dM_init_211 ?_
      refine go_top (((8 + i : Nat) : Int)) (by (try simp (discharger := (unfold inR; omega)) only [w32_id]) <;> omega) ?_
      refine go_iconst dM_init_212 (inR_of _ rfl) ?_
      refine go_mst (i := 0) (k := 8 + i) hM (by omega) dM_init_213 rfl rfl (by show _ < 1510; omega) ?_
      intro F2 m2 hM2 hF2 e2
      refine go_inc1 (((i + 1 : Nat) : Int)) dM_init_214 (Nat.le_of_ble_eq_true rfl) trivial (by (try simp (discharger := (unfold inR; omega)) only [w32_id]) <;> omega) ?_
      refine go_goto 198 dM_init_217 rfl ?_
      refine ih (i + 1) (by omega) F2 ?_ (fun k hk => by rw [hF2 k (by omega)]; exact hF k hk)
      rw [e2, va_up_self, va_up_up, zi1_up] at hM2
      exact hM2
  refine CT.of' (L0 := [gR r, gU]) plM (Nat.le_of_ble_eq_true rfl) rfl ?_
  refine go_aload_n (i := 0) dM_init_0 rfl rfl trivial ?_
  refine go_objInit dM_init_1 obM1 obI obC (Nat.le_of_ble_eq_true rfl) (by omega) ?_
  have p0 : PM F F r 0 [gN, gN, gN, gN, gN, gN, gI 0, gI 0, gN, gN, gN, gI 0, gI 0, gI 0, gI 0, gI 0, gI 0, gI 0, gI 0, gI 0, gI 0, gN, gN, gN, gN, gN, gN, gN, gN] := ⟨h, fun i hi => absurd hi (by omega), fun _ _ => rfl⟩
  show Go g yM_init 1 17 5300 _ _ _ (r + 1 + 0, F) _
  refine go_aload_n (i := 0) dM_init_4 rfl rfl trivial ?_
  refine go_sipush dM_init_5 (inR_of _ rfl) rfl ?_
  refine go_ms p0 (by omega) dM_init_8 dM_init_10 flM7 (by show 0 < 29; omega) rfl (by show 1510 < 100000; omega) (by omega) (by show 1510 ≤ _; omega) ?_
  intro F0 p1
  show Go g yM_init 1 16 3790 _ _ _ (r + 1 + 1, F0) _
  refine go_aload_n (i := 0) dM_init_13 rfl rfl trivial ?_
  refine go_sipush dM_init_14 (inR_of _ rfl) rfl ?_
  refine go_ms p1 (by omega) dM_init_17 dM_init_19 flM13 (by show 1 < 29; omega) rfl (by show 1510 < 100000; omega) (by omega) (by show 1510 ≤ _; omega) ?_
  intro F1 p2
  show Go g yM_init 1 15 2280 _ _ _ (r + 1 + 2, F1) _
  refine go_aload_n (i := 0) dM_init_22 rfl rfl trivial ?_
  refine go_bipush dM_init_23 (inR_of _ rfl) rfl ?_
  refine go_ms p2 (by omega) dM_init_25 dM_init_27 flM16 (by show 2 < 29; omega) rfl (by show 64 < 100000; omega) (by omega) (by show 64 ≤ _; omega) ?_
  intro F2 p3
  show Go g yM_init 1 14 2216 _ _ _ (r + 1 + 3, F2) _
  refine go_aload_n (i := 0) dM_init_30 rfl rfl trivial ?_
  refine go_bipush dM_init_31 (inR_of _ rfl) rfl ?_
  refine go_ms p3 (by omega) dM_init_33 dM_init_35 flM19 (by show 3 < 29; omega) rfl (by show 60 < 100000; omega) (by omega) (by show 60 ≤ _; omega) ?_
  intro F3 p4
  show Go g yM_init 1 13 2156 _ _ _ (r + 1 + 4, F3) _
  refine go_aload_n (i := 0) dM_init_38 rfl rfl trivial ?_
  refine go_bipush dM_init_39 (inR_of _ rfl) rfl ?_
  refine go_ms p4 (by omega) dM_init_41 dM_init_43 flM22 (by show 4 < 29; omega) rfl (by show 110 < 100000; omega) (by omega) (by show 110 ≤ _; omega) ?_
  intro F4 p5
  show Go g yM_init 1 12 2046 _ _ _ (r + 1 + 5, F4) _
  refine go_aload_n (i := 0) dM_init_46 rfl rfl trivial ?_
  refine go_iconst dM_init_47 (inR_of _ rfl) ?_
  refine go_ms p5 (by omega) dM_init_48 dM_init_50 flM25 (by show 5 < 29; omega) rfl (by show 4 < 100000; omega) (by omega) (by show 4 ≤ _; omega) ?_
  intro F5 p6
  show Go g yM_init 1 11 2042 _ _ _ (r + 1 + 6, F5) _
  refine go_aload_n (i := 0) dM_init_53 rfl rfl trivial ?_
  refine go_bipush dM_init_54 (inR_of _ rfl) rfl ?_
  refine go_ms p6 (by omega) dM_init_56 dM_init_58 flM28 (by show 8 < 29; omega) rfl (by show 10 < 100000; omega) (by omega) (by show 10 ≤ _; omega) ?_
  intro F6 p7
  show Go g yM_init 1 10 2032 _ _ _ (r + 1 + 7, F6) _
  refine go_aload_n (i := 0) dM_init_61 rfl rfl trivial ?_
  refine go_bipush dM_init_62 (inR_of _ rfl) rfl ?_
  refine go_ms p7 (by omega) dM_init_64 dM_init_66 flM31 (by show 9 < 29; omega) rfl (by show 96 < 100000; omega) (by omega) (by show 96 ≤ _; omega) ?_
  intro F7 p8
  show Go g yM_init 1 9 1936 _ _ _ (r + 1 + 8, F7) _
  refine go_aload_n (i := 0) dM_init_69 rfl rfl trivial ?_
  refine go_bipush dM_init_70 (inR_of _ rfl) rfl ?_
  refine go_ms p8 (by omega) dM_init_72 dM_init_74 flM34 (by show 10 < 29; omega) rfl (by show 100 < 100000; omega) (by omega) (by show 100 ≤ _; omega) ?_
  intro F8 p9
  show Go g yM_init 1 8 1836 _ _ _ (r + 1 + 9, F8) _
  refine go_aload_n (i := 0) dM_init_77 rfl rfl trivial ?_
  refine go_bipush dM_init_78 (inR_of _ rfl) rfl ?_
  refine go_newI dM_init_80 kaI (by omega) (by omega) (by omega) (by show 9 ≤ _; omega) ?_
  show Go g yM_init 1 7 1827 _ _ _ (r + 11, va_up F8 (r + 10) (cI 9 (fun _ => 0))) _
  refine go_dup dM_init_82 trivial ?_
  refine go_iconst dM_init_83 (inR_of _ rfl) ?_
  refine go_iconst dM_init_84 (inR_of _ rfl) ?_
  refine go_iast' 0 dM_init_85 (va_up_self _ _ _) rfl (by omega) ?_
  rw [va_up_up]
  refine go_dup dM_init_86 trivial ?_
  refine go_iconst dM_init_87 (inR_of _ rfl) ?_
  refine go_iconst dM_init_88 (inR_of _ rfl) ?_
  refine go_iast' 1 dM_init_89 (va_up_self _ _ _) rfl (by omega) ?_
  rw [va_up_up]
  refine go_dup dM_init_90 trivial ?_
  refine go_iconst dM_init_91 (inR_of _ rfl) ?_
  refine go_iconst dM_init_92 (inR_of _ rfl) ?_
  refine go_iast' 2 dM_init_93 (va_up_self _ _ _) rfl (by omega) ?_
  rw [va_up_up]
  refine go_dup dM_init_94 trivial ?_
  refine go_iconst dM_init_95 (inR_of _ rfl) ?_
  refine go_iconst dM_init_96 (inR_of _ rfl) ?_
  refine go_iast' 3 dM_init_97 (va_up_self _ _ _) rfl (by omega) ?_
  rw [va_up_up]
  refine go_dup dM_init_98 trivial ?_
  refine go_iconst dM_init_99 (inR_of _ rfl) ?_
  refine go_iconst dM_init_100 (inR_of _ rfl) ?_
  refine go_iast' 4 dM_init_101 (va_up_self _ _ _) rfl (by omega) ?_
  rw [va_up_up]
  refine go_dup dM_init_102 trivial ?_
  refine go_iconst dM_init_103 (inR_of _ rfl) ?_
  refine go_iconst dM_init_104 (inR_of _ rfl) ?_
  refine go_iast' 5 dM_init_105 (va_up_self _ _ _) rfl (by omega) ?_
  rw [va_up_up]
  refine go_dup dM_init_106 trivial ?_
  refine go_bipush dM_init_107 (inR_of _ rfl) rfl ?_
  refine go_iconst dM_init_109 (inR_of _ rfl) ?_
  refine go_iast' 6 dM_init_110 (va_up_self _ _ _) rfl (by omega) ?_
  rw [va_up_up]
  refine go_dup dM_init_111 trivial ?_
  refine go_bipush dM_init_112 (inR_of _ rfl) rfl ?_
  refine go_iconst dM_init_114 (inR_of _ rfl) ?_
  refine go_iast' 7 dM_init_115 (va_up_self _ _ _) rfl (by omega) ?_
  rw [va_up_up]
  refine go_dup dM_init_116 trivial ?_
  refine go_bipush dM_init_117 (inR_of _ rfl) rfl ?_
  refine go_iconst dM_init_119 (inR_of _ rfl) ?_
  refine go_iast' 8 dM_init_120 (va_up_self _ _ _) rfl (by omega) ?_
  rw [va_up_up]
  rw [m9_eq]
  refine go_putF dM_init_121 flM37 rfl rfl (show va_up F8 (r + 10) (cI 9 m9) r = cO 7 _ by rw [va_up_ne _ _ (by omega)]; exact p9.1) (by show 21 < 29; omega) rfl rfl ?_
  generalize hF9 : va_up (va_up F8 (r + 10) (cI 9 m9)) r _ = F9
  have p10 : PM F F9 r 10 _ := ⟨by rw [← hF9, va_up_self], fun i hi => by
    by_cases q : i = 9
    · subst q; rw [← hF9, va_up_ne _ _ (by omega), show r + 1 + 9 = r + 10 by omega, va_up_self]; rfl
    · rw [← hF9, va_up_ne _ _ (by omega), va_up_ne _ _ (by omega)]; exact p9.2.1 i (by omega), fun i hi => by rw [← hF9, va_up_ne _ _ (by omega), va_up_ne _ _ (by omega)]; exact p9.2.2 i hi⟩
  show Go g yM_init 1 7 1827 _ _ _ (r + 1 + 10, F9) _
  refine go_aload_n (i := 0) dM_init_124 rfl rfl trivial ?_
  refine go_bipush dM_init_125 (inR_of _ rfl) rfl ?_
  refine go_ms p10 (by omega) dM_init_127 dM_init_129 flM40 (by show 22 < 29; omega) rfl (by show 9 < 100000; omega) (by omega) (by show 9 ≤ _; omega) ?_
  intro F10 p11
  show Go g yM_init 1 6 1818 _ _ _ (r + 1 + 11, F10) _
  refine go_aload_n (i := 0) dM_init_132 rfl rfl trivial ?_
  refine go_sipush dM_init_133 (inR_of _ rfl) rfl ?_
  refine go_ms p11 (by omega) dM_init_136 dM_init_138 flM43 (by show 23 < 29; omega) rfl (by show 216 < 100000; omega) (by omega) (by show 216 ≤ _; omega) ?_
  intro F11 p12
  show Go g yM_init 1 5 1602 _ _ _ (r + 1 + 12, F11) _
  refine go_aload_n (i := 0) dM_init_141 rfl rfl trivial ?_
  refine go_bipush dM_init_142 (inR_of _ rfl) rfl ?_
  refine go_ms p12 (by omega) dM_init_144 dM_init_146 flM46 (by show 24 < 29; omega) rfl (by show 24 < 100000; omega) (by omega) (by show 24 ≤ _; omega) ?_
  intro F12 p13
  show Go g yM_init 1 4 1578 _ _ _ (r + 1 + 13, F12) _
  refine go_aload_n (i := 0) dM_init_149 rfl rfl trivial ?_
  refine go_iconst dM_init_150 (inR_of _ rfl) ?_
  refine go_ms p13 (by omega) dM_init_151 dM_init_153 flM49 (by show 25 < 29; omega) rfl (by show 5 < 100000; omega) (by omega) (by show 5 ≤ _; omega) ?_
  intro F13 p14
  show Go g yM_init 1 3 1573 _ _ _ (r + 1 + 14, F13) _
  refine go_aload_n (i := 0) dM_init_156 rfl rfl trivial ?_
  refine go_iconst dM_init_157 (inR_of _ rfl) ?_
  refine go_ms p14 (by omega) dM_init_158 dM_init_160 flM52 (by show 26 < 29; omega) rfl (by show 5 < 100000; omega) (by omega) (by show 5 ≤ _; omega) ?_
  intro F14 p15
  show Go g yM_init 1 2 1568 _ _ _ (r + 1 + 15, F14) _
  refine go_aload_n (i := 0) dM_init_163 rfl rfl trivial ?_
  refine go_bipush dM_init_164 (inR_of _ rfl) rfl ?_
  refine go_ms p15 (by omega) dM_init_166 dM_init_168 flM55 (by show 27 < 29; omega) rfl (by show 20 < 100000; omega) (by omega) (by show 20 ≤ _; omega) ?_
  intro F15 p16
  show Go g yM_init 1 1 1548 _ _ _ (r + 1 + 16, F15) _
  refine go_aload_n (i := 0) dM_init_171 rfl rfl trivial ?_
  refine go_sipush dM_init_172 (inR_of _ rfl) rfl ?_
  refine go_ms p16 (by omega) dM_init_175 dM_init_177 flM58 (by show 28 < 29; omega) rfl (by show 1510 < 100000; omega) (by omega) (by show 1510 ≤ _; omega) ?_
  intro F16 p17
  show Go g yM_init 1 0 38 _ _ _ (r + 1 + 17, F16) _
  have hM : MOD F16 r mA := ⟨p17.1, p17.2.1⟩
  have ho := hM.1
  show Go g yM_init 1 0 38 _ _ _ (r + 18, F16) _
  refine go_room (bc := 0) (bs := 0) (by omega) (by omega) ?_
  refine go_aload_n (i := 0) dM_init_180 rfl rfl trivial ?_
  refine go_getf dM_init_181 flM7 (by assumption) rfl ?_
  refine go_iconst dM_init_184 (inR_of _ rfl) ?_
  refine go_bipush dM_init_185 (inR_of _ rfl) rfl ?_
  refine go_mst (i := 0) (k := 1) hM (by omega) dM_init_187 rfl rfl (by show _ < 1510; omega) ?_
  intro Fa ma hMa hFa ea
  have ho := hMa.1
  refine go_aload_n (i := 0) dM_init_188 rfl rfl trivial ?_
  refine go_getf dM_init_189 flM7 (by assumption) rfl ?_
  refine go_bipush dM_init_192 (inR_of _ rfl) rfl ?_
  refine go_iconst dM_init_194 (inR_of _ rfl) ?_
  refine go_mst (i := 0) (k := 7) hMa (by omega) dM_init_195 rfl rfl (by show _ < 1510; omega) ?_
  intro Fb mb hMb hFb eb
  refine go_iconst dM_init_196 (inR_of _ rfl) ?_
  refine go_is1 dM_init_197 (Nat.le_of_ble_eq_true rfl) trivial ?_
  refine loop1 6 0 rfl Fb ?_ (fun k hk => by rw [hFb k (by omega), hFa k (by omega)]; exact p17.2.2 k hk)
  rw [eb, ea, va_up_self, va_up_up, show mA 0 = (fun _ => 0) from rfl, zi1_0] at hMb
  exact hMb
end MINIT
