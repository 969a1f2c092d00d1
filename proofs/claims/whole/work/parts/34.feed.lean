section MFEED
variable {g : GX} {N r : Nat} {F F1 : Nat → GC} {m m1 : Nat → Nat → Int}
/-- a number of the model is put -/
theorem go_mpf {y : GY} {d bc bs pc idx j : Nat} {ty : FieldType} {L st : List GV} {Q : GV → GM → Prop} {x : Int} (hM : MOD F r m) (hM1 : MOD (va_up F r (cO 7 ((mFld r m).set j (gI x)))) r (va_up m 17 (va_up (m 17) j x))) (hd : decode y.2.1 pc = .ok (.putfield idx, 3)) (hf : FL y.1.cls idx 7 j ty false) (hn : narrow ty (rv g (gI x)) = rv g (gI x)) (hj : (Nat.blt j 29 && fits ty (rv g (gI x))) = true)
    (kk : ∀ (F1 : Nat → GC) (m1 : Nat → Nat → Int), MOD F1 r m1 → FR r F F1 → m1 = va_up m 17 (va_up (m 17) j x) → Go g y d bc bs (pc + 3) L st (N, F1) Q) : Go g y d bc bs pc L (gI x :: gR r :: st) (N, F) Q := by
  rw [Bool.and_eq_true] at hj
  exact go_putf hd hf hM.1 (Nat.le_of_ble_eq_true hj.1) hn hj.2 (kk _ _ hM1 (FR.rf.put (by omega) (by omega)) rfl)
/-- the i-th byte of the three numbers -/
def zfd (a b c : Int) (i : Nat) : Int := iAnd (iUshr (if i < 4 then a else if i < 8 then b else c) ((24 - 8 * (i % 4) : Nat) : Int)) 255
def zfeed (T : Nat → Int) (p : Nat) (a b c : Int) : Nat → Nat → Int
  | 0 => T
  | i + 1 => va_up (zfeed T p a b c i) (p + i) (zfd a b c i)
def v_feed (m : Nat → Nat → Int) : Int := if 96 < m 17 11 + 12 then FULL else m 17 11 + 12
def u_feed (m : Nat → Nat → Int) (a b c : Int) : Nat → Nat → Int := if 96 < m 17 11 + 12 then m else va_up (va_up m 7 (zfeed (m 7) (m 17 11).toNat a b c 12)) 17 (va_up (m 17) 11 (m 17 11 + 12))
theorem bM_feed (hM : MOD F r m) (ht : 0 ≤ m 17 11 ∧ m 17 11 ≤ 96) {a b c : Int} : CT g yM_feed 0 0 0 [gR r, gI a, gI b, gI c] (N, F) (MB N r F (gI (v_feed m)) (u_feed m a b c)) := by
  have ho := hM.1
  refine CT.of' (L0 := [gR r, gI a, gI b, gI c, gU, gU]) plM (Nat.le_of_ble_eq_true rfl) rfl ?_
  refine go_aload_n (i := 0) dM_feed_0 rfl rfl trivial ?_
  refine go_getf dM_feed_1 flM227 (by assumption) rfl ?_
  refine go_bipush dM_feed_4 (inR_of _ rfl) rfl ?_
  refine go_iadd dM_feed_6 ?_
  refine go_top (m 17 11 + 12) (by (try simp (discharger := (unfold inR; omega)) only [w32_id]) <;> omega) ?_
  refine go_bipush dM_feed_7 (inR_of _ rfl) rfl ?_
  refine go_ic_le 15 dM_feed_9 rfl (fun h9 => ?_) (fun h9 => ?_)
  · have hv : v_feed m = m 17 11 + 12 := by unfold v_feed; rw [if_neg (by omega)]
    have hu : u_feed m a b c = va_up (va_up m 7 (zfeed (m 7) (m 17 11).toNat a b c 12)) 17 (va_up (m 17) 11 (m 17 11 + 12)) := by unfold u_feed; rw [if_neg (by omega)]
    rw [hv, hu]
    generalize hp : (m 17 11).toNat = p
    have ep : m 17 11 = (p : Int) := by omega
    rw [ep]
    have loop : ∀ (j i : Nat), i + j = 12 → ∀ (x5 : GV) (F1 : Nat → GC) (m1 : Nat → Nat → Int), MOD F1 r m1 → FR r F F1 → SB [7, 17] m m1 → m1 7 = zfeed (m 7) p a b c i → m1 17 = va_up (m 17) 11 ((p + i : Nat) : Int) → Go g yM_feed 0 0 0 18 [gR r, gI a, gI b, gI c, gI i, x5] [] (N, F1) (MB N r F (gI ((p : Int) + 12)) (va_up (va_up m 7 (zfeed (m 7) p a b c 12)) 17 (va_up (m 17) 11 ((p : Int) + 12)))) := by
      intro j
      induction j with
      | zero =>
        intro i hi x5 F1 m1 hM1 hF1 hS1 e7 e17
        have e : i = 12 := by omega
        subst e
        have ho := hM1.1
        have e11 : m1 17 11 = (p : Int) + 12 := by rw [e17]; rfl
        refine go_iload dM_feed_18 rfl ?_
        refine go_bipush dM_feed_20 (inR_of _ rfl) rfl ?_
        refine go_ic_ge 91 dM_feed_22 rfl (fun h22 => ?_) (fun h22 => absurd (by omega) h22)
        refine go_aload_n (i := 0) dM_feed_91 rfl rfl trivial ?_
        refine go_getf dM_feed_92 flM227 (by assumption) rfl ?_
        refine go_iret dM_feed_95 rfl rfl ?_
        refine ⟨by rw [e11], F1, m1, rfl, hM1, hF1, fun q hq => ?_, fun q hq => ?_⟩
        · by_cases c7 : q = 7
          · subst c7; rw [e7]; rfl
          · have c17 : q ≠ 17 := by simp at hq; omega
            rw [va_up_ne _ _ c17, va_up_ne _ _ c7]
            exact hS1 q (by simp; omega)
        · rw [e17]; rfl
      | succ j ih =>
        intro i hi x5 F1 m1 hM1 hF1 hS1 e7 e17
        have ho := hM1.1
        have e11 : m1 17 11 = ((p + i : Nat) : Int) := by rw [e17]; rfl
        have t47 : ∀ v : Int, v = (if i < 4 then a else if i < 8 then b else c) → Go g yM_feed 0 0 0 47 [gR r, gI a, gI b, gI c, gI i, x5] [gI v] (N, F1) (MB N r F (gI ((p : Int) + 12)) (va_up (va_up m 7 (zfeed (m 7) p a b c 12)) 17 (va_up (m 17) 11 ((p : Int) + 12)))) := by
          intro v hv
          have hmod : (i : Int).tmod 4 = ((i % 4 : Nat) : Int) := by rw [Int.tmod_eq_emod_of_nonneg (by omega)]; rfl
          have hm4 : i % 4 < 4 := Nat.mod_lt _ (by omega)
          refine go_is5 dM_feed_47 (Nat.le_of_ble_eq_true rfl) trivial ?_
          refine go_aload_n (i := 0) dM_feed_49 rfl rfl trivial ?_
          refine go_getf dM_feed_50 flM31 (by assumption) rfl ?_
          refine go_aload_n (i := 0) dM_feed_53 rfl rfl trivial ?_
          refine go_getf dM_feed_54 flM227 (by assumption) rfl ?_
          refine go_iload dM_feed_57 rfl ?_
          refine go_bipush dM_feed_59 (inR_of _ rfl) rfl ?_
          refine go_bipush dM_feed_61 (inR_of _ rfl) rfl ?_
          refine go_iload dM_feed_63 rfl ?_
          refine go_iconst dM_feed_65 (inR_of _ rfl) ?_
          refine go_irem dM_feed_66 (by omega) ?_
          rw [hmod]
          refine go_imul dM_feed_67 ?_
          refine go_isub dM_feed_68 ?_
          refine go_top (((24 - 8 * (i % 4) : Nat) : Int)) (by (try simp (discharger := (unfold inR; omega)) only [w32_id]) <;> omega) ?_
          refine go_iushr dM_feed_69 ?_
          refine go_sipush dM_feed_70 (inR_of _ rfl) rfl ?_
          refine go_iand dM_feed_73 ?_
          rw [e11]
          refine go_mst (i := 7) (k := p + i) hM1 (by omega) dM_feed_74 rfl rfl (by show p + i < 96; omega) (fun F2 m2 hM2 hF2 e2 => ?_)
          have ho2 := hM2.1
          have e211 : m2 17 11 = ((p + i : Nat) : Int) := by rw [e2]; exact e11
          refine go_aload_n (i := 0) dM_feed_75 rfl rfl trivial ?_
          refine go_dup dM_feed_76 trivial ?_
          refine go_getf dM_feed_77 flM227 (by assumption) rfl ?_
          refine go_iconst dM_feed_80 (inR_of _ rfl) ?_
          refine go_iadd dM_feed_81 ?_
          rw [e211]
          refine go_top (((p + (i + 1) : Nat)) : Int) (by (try simp (discharger := (unfold inR; omega)) only [w32_id]) <;> omega) ?_
          refine go_mpf hM2 (hM2.f11 _) dM_feed_82 flM227 rfl rfl (fun F3 m3 hM3 hF3 e3 => ?_)
          refine go_inc4 (((i + 1 : Nat) : Int)) dM_feed_85 (Nat.le_of_ble_eq_true rfl) trivial (by (try simp (discharger := (unfold inR; omega)) only [w32_id]) <;> omega) ?_
          refine go_goto 18 dM_feed_88 rfl ?_
          refine ih (i + 1) (by omega) _ F3 m3 hM3 ((hF1.tr hF2).tr hF3) (by rw [e3, e2]; exact (hS1.put (by simp)).put (by simp)) ?_ ?_
          · rw [e3, e2]
            show va_up (m1 7) (p + i) _ = _
            rw [e7, hv]
            rfl
          · rw [e3, e2]
            show va_up (m1 17) 11 _ = _
            rw [e17, bx_uu]
        refine go_iload dM_feed_18 rfl ?_
        refine go_bipush dM_feed_20 (inR_of _ rfl) rfl ?_
        refine go_ic_ge 91 dM_feed_22 rfl (fun h22 => absurd h22 (by omega)) (fun h22 => ?_)
        refine go_iload dM_feed_25 rfl ?_
        refine go_iconst dM_feed_27 (inR_of _ rfl) ?_
        refine go_ic_ge 35 dM_feed_28 rfl (fun h28 => ?_) (fun h28 => ?_)
        · refine go_iload dM_feed_35 rfl ?_
          refine go_bipush dM_feed_37 (inR_of _ rfl) rfl ?_
          refine go_ic_ge 46 dM_feed_39 rfl (fun h39 => ?_) (fun h39 => ?_)
          · refine go_iload_n (i := 3) dM_feed_46 rfl rfl ?_
            exact t47 _ (by rw [if_neg (by omega), if_neg (by omega)])
          · refine go_iload_n (i := 2) dM_feed_42 rfl rfl ?_
            refine go_goto 47 dM_feed_43 rfl ?_
            exact t47 _ (by rw [if_neg (by omega), if_pos (by omega)])
        · refine go_iload_n (i := 1) dM_feed_31 rfl rfl ?_
          refine go_goto 47 dM_feed_32 rfl ?_
          exact t47 _ (by rw [if_pos (by omega)])
    refine go_iconst dM_feed_15 (inR_of _ rfl) ?_
    refine go_is4 dM_feed_16 (Nat.le_of_ble_eq_true rfl) trivial ?_
    exact loop 12 0 (by omega) _ F m hM FR.rf SB.rf rfl (by rw [show ((p + 0 : Nat) : Int) = m 17 11 by omega, va_up_id])
  · refine go_ldc dM_feed_12 kcM108 (inR_of _ rfl) ?_
    refine go_iret dM_feed_14 rfl rfl ?_
    exact ⟨by unfold v_feed; rw [if_pos (by omega)], F, m, rfl, hM, FR.rf, by unfold u_feed; rw [if_pos (by omega)]; exact EQ.rf⟩
def v_trim (m : Nat → Nat → Int) (k : Int) : Int := if 0 ≤ k ∧ k ≤ m 17 11 then k else BAD
def u_trim (m : Nat → Nat → Int) (k : Int) : Nat → Nat → Int := if 0 ≤ k ∧ k ≤ m 17 11 then va_up m 17 (va_up (m 17) 11 k) else m
theorem bM_trim (hM : MOD F r m) {k : Int} : CT g yM_trim 1 0 0 [gR r, gI k] (N, F) (MB N r F (gI (v_trim m k)) (u_trim m k)) := by
  have ho := hM.1
  refine CT.of' (L0 := [gR r, gI k]) plM (Nat.le_of_ble_eq_true rfl) rfl ?_
  refine go_iload_n (i := 1) dM_trim_0 rfl rfl ?_
  refine go_i2l dM_trim_1 ?_
  refine go_lconst (x := 0) dM_trim_2 (inL_of2 _ rfl) rfl ?_
  refine go_aload_n (i := 0) dM_trim_3 rfl rfl trivial ?_
  refine go_getf dM_trim_4 flM227 (by assumption) rfl ?_
  refine go_i2l dM_trim_7 ?_
  refine go_SP dM_trim_8 vkM65 (ct_in _ _ _) rfl (by omega) rfl (fun _ => Nat.le_of_ble_eq_true rfl) ?_
  refine go_if_ne 17 dM_trim_11 rfl (fun h11 => ?_) (fun h11 => ?_)
  · have hc : 0 ≤ k ∧ k ≤ m 17 11 := by grind [zin]
    refine go_aload_n (i := 0) dM_trim_17 rfl rfl trivial ?_
    refine go_iload_n (i := 1) dM_trim_18 rfl rfl ?_
    refine go_mpf hM (hM.f11 _) dM_trim_19 flM227 rfl rfl (fun F1 m1 hM1 hF1 e1 => ?_)
    refine go_iload_n (i := 1) dM_trim_22 rfl rfl ?_
    refine go_iret dM_trim_23 rfl rfl ?_
    exact ⟨by unfold v_trim; rw [if_pos hc], F1, m1, rfl, hM1, hF1, by unfold u_trim; rw [if_pos hc, e1]; exact EQ.rf⟩
  · have hc : ¬ (0 ≤ k ∧ k ≤ m 17 11) := by grind [zin]
    refine go_ldc dM_trim_14 kcM96 (inR_of _ rfl) ?_
    refine go_iret dM_trim_16 rfl rfl ?_
    exact ⟨by unfold v_trim; rw [if_neg hc], F, m, rfl, hM, FR.rf, by unfold u_trim; rw [if_neg hc]; exact EQ.rf⟩
end MFEED
