/-! ===== the model lays a text down ===== -/
section MLAYS
variable {g : GX} {N r : Nat} {F F1 F2 : Nat → GC} {m m1 m2 : Nat → Nat → Int} {B : Nat → Int} {n : Nat} {R : ZR}
theorem qM_lays (hM : MOD F r m) {key t : Nat} (hk : key < 3) (ht : t < 14) (hs : m 0 64 = (t : Int)) (h19 : m 17 19 = (key : Int)) (h15 : m 17 15 = (R.out.length : Nat)) (h16 : m 17 16 = (R.pcs : Nat)) (h8 : ∀ k : Nat, k < R.out.length → m 8 k = R.out.getD k 0) (hl : R.out.length ≤ 96) : CT g yM_lays 0 0 0 [gR r] (N, F) (MP N r F m (gI (t : Int)) (zlay (m 0) key R) []) := by
  have ho := hM.1
  have hz : zlay (m 0) key R = zcpy (zlay0 (m 0) key R) (110 + 100 * t) R.out R.out.length := by unfold zlay; rw [hs]; rfl
  have hz0 : zlay0 (m 0) key R = va_up (va_up (va_up (va_up (va_up (m 0) 64 ((t + 1 : Nat) : Int)) (65 + key) (t : Int)) (68 + t) key) (82 + t) (R.out.length : Nat)) (96 + t) (R.pcs : Nat) := by unfold zlay0; rw [hs]; rfl
  have loop : ∀ (j k : Nat), k + j = R.out.length → ∀ (F1 : Nat → GC) (m1 : Nat → Nat → Int), MOD F1 r m1 → FR r F F1 → SB [0] m m1 → m1 0 = zcpy (zlay0 (m 0) key R) (110 + 100 * t) R.out k → Go g yM_lays 0 0 0 73 [gR r, gI t, gI k] [] (N, F1) (MP N r F m (gI (t : Int)) (zlay (m 0) key R) []) := by
    intro j
    induction j with
    | zero =>
      intro k hkj F1 m1 hM1 hF1 hS1 e1
      have ho := hM1.1
      have e15 : m1 17 15 = (R.out.length : Nat) := by rw [hS1 17 (by decide)]; exact h15
      refine go_iload_n (i := 2) dM_lays_73 rfl rfl ?_
      refine go_aload_n (i := 0) dM_lays_74 rfl rfl trivial ?_
      refine go_getf dM_lays_75 flM253 (by assumption) rfl ?_
      rw [e15]
      refine go_ic_ge 107 dM_lays_78 rfl (fun h78 => ?_) (fun h78 => absurd (by omega) h78)
      refine go_iload_n (i := 1) dM_lays_107 rfl rfl ?_
      refine go_iret dM_lays_108 rfl rfl ?_
      exact ⟨rfl, F1, m1, rfl, hM1, hF1, by rw [e1, hz, show k = R.out.length by omega], hS1⟩
    | succ j ih =>
      intro k hkj F1 m1 hM1 hF1 hS1 e1
      have ho := hM1.1
      have e15 : m1 17 15 = (R.out.length : Nat) := by rw [hS1 17 (by decide)]; exact h15
      have e8 : m1 8 k = R.out.getD k 0 := by rw [hS1 8 (by decide)]; exact h8 k (by omega)
      refine go_iload_n (i := 2) dM_lays_73 rfl rfl ?_
      refine go_aload_n (i := 0) dM_lays_74 rfl rfl trivial ?_
      refine go_getf dM_lays_75 flM253 (by assumption) rfl ?_
      rw [e15]
      refine go_ic_ge 107 dM_lays_78 rfl (fun h78 => absurd h78 (by omega)) (fun h78 => ?_)
      refine go_aload_n (i := 0) dM_lays_81 rfl rfl trivial ?_
      refine go_getf dM_lays_82 flM7 (by assumption) rfl ?_
      refine go_bipush dM_lays_85 (inR_of _ rfl) rfl ?_
      refine go_bipush dM_lays_87 (inR_of _ rfl) rfl ?_
      refine go_iload_n (i := 1) dM_lays_89 rfl rfl ?_
      refine go_imul dM_lays_90 ?_
      refine go_iadd dM_lays_91 ?_
      refine go_iload_n (i := 2) dM_lays_92 rfl rfl ?_
      refine go_iadd dM_lays_93 ?_
      refine go_top (((110 + 100 * t + k : Nat) : Int)) (by (try simp (discharger := (unfold inR; omega)) only [w32_id]) <;> omega) ?_
      refine go_aload_n (i := 0) dM_lays_94 rfl rfl trivial ?_
      refine go_getf dM_lays_95 flM34 (by assumption) rfl ?_
      refine go_iload_n (i := 2) dM_lays_98 rfl rfl ?_
      refine go_iald' k _ dM_lays_99 hM1.a8 rfl (by omega) e8 ?_
      refine go_mst (i := 0) (k := 110 + 100 * t + k) hM1 (by omega) dM_lays_100 rfl rfl (by show _ < 1510; omega) (fun F2 m2 hM2 hF2 e2 => ?_)
      refine go_inc2 (((k + 1 : Nat) : Int)) dM_lays_101 (Nat.le_of_ble_eq_true rfl) trivial (by (try simp (discharger := (unfold inR; omega)) only [w32_id]) <;> omega) ?_
      refine go_goto 73 dM_lays_104 rfl ?_
      refine ih (k + 1) (by omega) F2 m2 hM2 (hF1.tr hF2) (by rw [e2]; exact hS1.put (by simp)) ?_
      rw [e2]
      show va_up (m1 0) (110 + 100 * t + k) _ = _
      rw [e1]
      rfl
  refine CT.of' (L0 := [gR r, gU, gU]) plM (Nat.le_of_ble_eq_true rfl) rfl ?_
  refine go_aload_n (i := 0) dM_lays_0 rfl rfl trivial ?_
  refine go_getf dM_lays_1 flM7 (by assumption) rfl ?_
  refine go_bipush dM_lays_4 (inR_of _ rfl) rfl ?_
  refine go_iald' 64 ((t : Nat) : Int) dM_lays_6 hM.a0 rfl (by omega) hs ?_
  refine go_is1 dM_lays_7 (Nat.le_of_ble_eq_true rfl) trivial ?_
  refine go_aload_n (i := 0) dM_lays_8 rfl rfl trivial ?_
  refine go_getf dM_lays_9 flM7 (by assumption) rfl ?_
  refine go_bipush dM_lays_12 (inR_of _ rfl) rfl ?_
  refine go_dup2 dM_lays_14 trivial trivial ?_
  refine go_iald' 64 ((t : Nat) : Int) dM_lays_15 hM.a0 rfl (by omega) hs ?_
  refine go_iconst dM_lays_16 (inR_of _ rfl) ?_
  refine go_iadd dM_lays_17 ?_
  refine go_top (((t + 1 : Nat) : Int)) (by (try simp (discharger := (unfold inR; omega)) only [w32_id]) <;> omega) ?_
  refine go_mst (i := 0) (k := 64) hM (by omega) dM_lays_18 rfl rfl (by decide) (fun F1 m1 hM1 hF1 e1 => ?_)
  have ho1 := hM1.1
  have k1 : m1 17 = m 17 := by rw [e1]; rfl
  refine go_aload_n (i := 0) dM_lays_19 rfl rfl trivial ?_
  refine go_getf dM_lays_20 flM7 (by assumption) rfl ?_
  refine go_bipush dM_lays_23 (inR_of _ rfl) rfl ?_
  refine go_aload_n (i := 0) dM_lays_25 rfl rfl trivial ?_
  refine go_getf dM_lays_26 flM260 (by assumption) rfl ?_
  rw [k1, h19]
  refine go_iadd dM_lays_29 ?_
  refine go_top (((65 + key : Nat) : Int)) (by (try simp (discharger := (unfold inR; omega)) only [w32_id]) <;> omega) ?_
  refine go_iload_n (i := 1) dM_lays_30 rfl rfl ?_
  refine go_mst (i := 0) (k := 65 + key) hM1 (by omega) dM_lays_31 rfl rfl (by show _ < 1510; omega) (fun F2 m2 hM2 hF2 e2 => ?_)
  have ho2 := hM2.1
  have k2 : m2 17 = m 17 := by rw [e2]; exact k1
  refine go_aload_n (i := 0) dM_lays_32 rfl rfl trivial ?_
  refine go_getf dM_lays_33 flM7 (by assumption) rfl ?_
  refine go_bipush dM_lays_36 (inR_of _ rfl) rfl ?_
  refine go_iload_n (i := 1) dM_lays_38 rfl rfl ?_
  refine go_iadd dM_lays_39 ?_
  refine go_top (((68 + t : Nat) : Int)) (by (try simp (discharger := (unfold inR; omega)) only [w32_id]) <;> omega) ?_
  refine go_aload_n (i := 0) dM_lays_40 rfl rfl trivial ?_
  refine go_getf dM_lays_41 flM260 (by assumption) rfl ?_
  rw [k2, h19]
  refine go_mst (i := 0) (k := 68 + t) hM2 (by omega) dM_lays_44 rfl rfl (by show _ < 1510; omega) (fun F3 m3 hM3 hF3 e3 => ?_)
  have ho3 := hM3.1
  have k3 : m3 17 = m 17 := by rw [e3]; exact k2
  refine go_aload_n (i := 0) dM_lays_45 rfl rfl trivial ?_
  refine go_getf dM_lays_46 flM7 (by assumption) rfl ?_
  refine go_bipush dM_lays_49 (inR_of _ rfl) rfl ?_
  refine go_iload_n (i := 1) dM_lays_51 rfl rfl ?_
  refine go_iadd dM_lays_52 ?_
  refine go_top (((82 + t : Nat) : Int)) (by (try simp (discharger := (unfold inR; omega)) only [w32_id]) <;> omega) ?_
  refine go_aload_n (i := 0) dM_lays_53 rfl rfl trivial ?_
  refine go_getf dM_lays_54 flM253 (by assumption) rfl ?_
  rw [k3, h15]
  refine go_mst (i := 0) (k := 82 + t) hM3 (by omega) dM_lays_57 rfl rfl (by show _ < 1510; omega) (fun F4 m4 hM4 hF4 e4 => ?_)
  have ho4 := hM4.1
  have k4 : m4 17 = m 17 := by rw [e4]; exact k3
  refine go_aload_n (i := 0) dM_lays_58 rfl rfl trivial ?_
  refine go_getf dM_lays_59 flM7 (by assumption) rfl ?_
  refine go_bipush dM_lays_62 (inR_of _ rfl) rfl ?_
  refine go_iload_n (i := 1) dM_lays_64 rfl rfl ?_
  refine go_iadd dM_lays_65 ?_
  refine go_top (((96 + t : Nat) : Int)) (by (try simp (discharger := (unfold inR; omega)) only [w32_id]) <;> omega) ?_
  refine go_aload_n (i := 0) dM_lays_66 rfl rfl trivial ?_
  refine go_getf dM_lays_67 flM266 (by assumption) rfl ?_
  rw [k4, h16]
  refine go_mst (i := 0) (k := 96 + t) hM4 (by omega) dM_lays_70 rfl rfl (by show _ < 1510; omega) (fun F5 m5 hM5 hF5 e5 => ?_)
  refine go_iconst dM_lays_71 (inR_of _ rfl) ?_
  refine go_is2 dM_lays_72 (Nat.le_of_ble_eq_true rfl) trivial ?_
  refine loop R.out.length 0 (by omega) F5 m5 hM5 ((((hF1.tr hF2).tr hF3).tr hF4).tr hF5) (by rw [e5, e4, e3, e2, e1]; exact ((((SB.rf.put (by simp)).put (by simp)).put (by simp)).put (by simp)).put (by simp)) ?_
  show m5 0 = zlay0 (m 0) key R
  rw [hz0, e5]
  show va_up (m4 0) _ _ = _
  rw [e4]
  show va_up (va_up (m3 0) _ _) _ _ = _
  rw [e3]
  show va_up (va_up (va_up (m2 0) _ _) _ _) _ _ = _
  rw [e2]
  show va_up (va_up (va_up (va_up (m1 0) _ _) _ _) _ _) _ _ = _
  rw [e1]
  rfl
/-- the bytes on the tape -/
def mB (m : Nat → Nat → Int) : Nat → Int := zBT (m 7) (m 17 11).toNat
def mR (m : Nat → Nat → Int) : ZR := zprs (mB m) (m 17 11).toNat
def mK (m : Nat → Nat → Int) : Nat := (zkey (mB m) (zR0 (mB m) (m 17 11).toNat)).toNat
def v_text (m : Nat → Nat → Int) : Int := if (mR m).ok = true then (if m 0 64 = 14 then FULL else m 0 64) else -100 - ((mR m).fr : Nat)
def u_text (m : Nat → Nat → Int) : Nat → Nat → Int := va_up (va_up m 0 (if (mR m).ok = true ∧ ¬ m 0 64 = 14 then zlay (m 0) (mK m) (mR m) else m 0)) 17 (va_up (m 17) 11 0)
def mTp (m : Nat → Nat → Int) : Prop := 0 ≤ m 17 11 ∧ m 17 11 ≤ 96 ∧ ∀ k : Nat, (k : Int) < m 17 11 → 0 ≤ m 7 k ∧ m 7 k ≤ 255
theorem mTp.byt (h : mTp m) : BYT (mB m) (m 17 11).toNat := zBT_ok (by have := h.2.1; omega) (fun k hk => h.2.2 k (by have := h.1; omega))
/-- the text that was read has at most 96 words, and they can be worked out -/
theorem zprs_ok (hB : BYT B n) (h : (zprs B n).ok = true) : 0 ≤ zkey B (zR0 B n) ∧ zprs B n = zR1 B n ∧ (1 ≤ (zprs B n).out.length ∧ (zprs B n).out.length ≤ 96) ∧ (1 ≤ (zprs B n).pcs ∨ True) ∧ (zprs B n).pcs ≤ 96 ∧ zvl (if (zkey B (zR0 B n)).toNat = 0 then 4 else 2) 0 (zprs B n).out ∧ zdl 0 (zprs B n).out = 1 := by
  have hw0 : ZR.wf ((0, 0, 0, [], 0, true) : ZR) n := ⟨Nat.le_refl _, Nat.zero_le _, fun h => absurd rfl h, Nat.zero_le _⟩
  obtain ⟨hwR, -⟩ := ZR.nx_wf hB hw0
  have hwR : (zR0 B n).wf n := hwR
  obtain ⟨hwS, hSf⟩ := ZR.nx_wf hB hwR
  have hn := hB.1
  by_cases c : zkey B (zR0 B n) < 0
  · have hz : zprs B n = (zR0 B n).bad := by unfold zprs; rw [if_pos c]
    rw [hz] at h
    simp [ZR.bad, ZR.ok] at h
  · by_cases c2 : (zR1 B n).ok = true ∧ (zR1 B n).so = 0
    · have hz : zprs B n = zR1 B n := by unfold zprs; rw [if_neg c, if_pos c2]
      rw [hz]
      have g1 : ZR.go ((zR0 B n).nx B n) n 0 (zR1 B n) := zpar_go hB (zkey B (zR0 B n)).toNat 800 0 0 0 _ hwS rfl
      have v1 := zpar_val hB (zkey B (zR0 B n)).toNat 800 0 0 0 ((zR0 B n).nx B n) 0 hwS (ZR.nx_wd _ B n) rfl trivial rfl (by omega) c2.1
      have v1 : zvl (if (zkey B (zR0 B n)).toNat = 0 then 4 else 2) 0 (zR1 B n).out ∧ zdl 0 (zR1 B n).out = 0 + 1 := v1
      unfold ZR.go at g1
      have e1 : ((zR0 B n).nx B n).out = [] := rfl
      have e2 : ((zR0 B n).nx B n).pcs = 0 := rfl
      rw [e1, e2] at g1
      have g2 := g1.1.1
      have g3 := g1.1.2.1
      have g4 := g1.2.2.2.1
      have g5 := g1.2.2.2.2
      have hl : 1 ≤ (zR1 B n).out.length := by
        cases hc : (zR1 B n).out with
        | nil => rw [hc] at v1; exact absurd v1.2 (by decide)
        | cons a b => simp
      simp only [List.length_nil] at g4
      exact ⟨by omega, rfl, ⟨hl, by omega⟩, Or.inr trivial, by omega, v1.1, v1.2⟩
    · have hz : zprs B n = (zR1 B n).bad := by unfold zprs; rw [if_neg c, if_neg c2]
      rw [hz] at h
      simp [ZR.bad, ZR.ok] at h
theorem bM_text (hM : MOD F r m) (hp : mTp m) (hT : zT (m 0)) : CT g yM_text 100 0 0 [gR r] (N, F) (MB N r F (gI (v_text m)) (u_text m)) := by
  have ho := hM.1
  have hB := hp.byt
  have hn := hB.1
  have h64 := hT.1
  have kin := zkey_in (mB m) (zR0 (mB m) (m 17 11).toNat)
  refine CT.of' (L0 := [gR r]) plM (Nat.le_of_ble_eq_true rfl) rfl ?_
  refine go_aload_n (i := 0) dM_text_0 rfl rfl trivial ?_
  refine go_VX dM_text_1 vkM317 (by assumption) (List.cons_ne_nil _ _) (qM_parses (B := mB m) (n := (m 17 11).toNat) hM rfl (by have := hp.1; omega) hB) rfl (by omega) (by omega) (by omega) rfl (fun _ => Nat.le_of_ble_eq_true rfl) ?_
  rintro _ _ ⟨rfl, F2, m2, rfl, h2⟩ -
  dsimp only [rp]
  have h2 : PX r F m (mR m) (zkey (mB m) (zR0 (mB m) (m 17 11).toNat)) F2 m2 := h2
  have hM2 := h2.1
  refine go_aload_n (i := 0) dM_text_4 rfl rfl trivial ?_
  refine go_iconst dM_text_5 (inR_of _ rfl) ?_
  refine go_mpf hM2 (hM2.f11 _) dM_text_6 flM227 rfl rfl (fun F3 m3 hM3 hF3 e3 => ?_)
  have ho3 := hM3.1
  have k3 : m3 17 = va_up (m2 17) 11 0 := by rw [e3]; rfl
  have hS3 : SB [8, 17] m m3 := by rw [e3]; exact h2.2.2.1.put (by simp)
  have hF3' : FR r F F3 := h2.2.1.tr hF3
  have e30 : m3 0 = m 0 := hS3 0 (by decide)
  have e320 : m3 17 20 = (if (mR m).ok = true then 0 else 1) := by rw [k3]; exact h2.2.2.2.2.2.1
  have fin : ∀ (F4 : Nat → GC) (m4 : Nat → Nat → Int) (S : Nat → Int), MOD F4 r m4 → FR r F3 F4 → SB [0] m3 m4 → m4 0 = S → (S = if (mR m).ok = true ∧ ¬ m 0 64 = 14 then zlay (m 0) (mK m) (mR m) else m 0) → ∀ v : Int, v = v_text m → MB N r F (gI (v_text m)) (u_text m) (gI v) (N, F4) := by
    intro F4 m4 S hM4 hF4 hS4 e4 hSS v hv
    refine ⟨by rw [hv], F4, m4, rfl, hM4, hF3'.tr hF4, fun i hi => ?_, fun j hj => ?_⟩
    · unfold u_text
      have c17 : i ≠ 17 := by simp at hi; omega
      have c8 : i ≠ 8 := by simp at hi; omega
      rw [va_up_ne _ _ c17]
      by_cases c0 : i = 0
      · subst c0; rw [va_up_self, e4, hSS]
      · rw [va_up_ne _ _ c0, hS4 i (by simp; omega), hS3 i (by simp; omega)]
    · unfold u_text
      rw [va_up_self, hS4 17 (by decide), k3]
      by_cases c11 : j = 11
      · subst c11; rfl
      · rw [va_up_ne _ _ c11, va_up_ne _ _ c11]
        exact h2.2.2.2.1 j (by simp at hj; omega)
  have a3 := hM3.a0
  refine go_aload_n (i := 0) dM_text_9 rfl rfl trivial ?_
  refine go_getf dM_text_10 flM249 (by assumption) rfl ?_
  rw [e320]
  by_cases hok : (mR m).ok = true
  · obtain ⟨q1, q2, q3, -, q5, -, -⟩ := zprs_ok hB hok
    have q3 : 1 ≤ (mR m).out.length ∧ (mR m).out.length ≤ 96 := q3
    obtain ⟨p19, p15, p16, p8⟩ := h2.2.2.2.2.2.2 hok
    rw [if_pos hok]
    refine go_if_eq 24 dM_text_13 rfl (fun h13 => ?_) (fun h13 => absurd rfl h13)
    refine go_aload_n (i := 0) dM_text_24 rfl rfl trivial ?_
    refine go_getf dM_text_25 flM7 (by assumption) rfl ?_
    refine go_bipush dM_text_28 (inR_of _ rfl) rfl ?_
    refine go_iald' 64 (m 0 64) dM_text_30 hM3.a0 rfl (by omega) (by rw [e30]) ?_
    refine go_bipush dM_text_31 (inR_of _ rfl) rfl ?_
    refine go_ic_ne 41 dM_text_33 rfl (fun h33 => ?_) (fun h33 => ?_)
    · have ht : m 0 64 = (((m 0 64).toNat : Nat) : Int) := by omega
      refine go_aload_n (i := 0) dM_text_41 rfl rfl trivial ?_
      refine go_VX dM_text_42 vkM320 (by assumption) (List.cons_ne_nil _ _) (qM_lays (R := mR m) (key := mK m) (t := (m 0 64).toNat) hM3 (by unfold mK; omega) (by omega) (by rw [e30]; exact ht) (by rw [k3]; show m2 17 19 = _; rw [p19]; unfold mK; omega) (by rw [k3]; exact p15) (by rw [k3]; exact p16) (fun k hk => by rw [e3]; exact p8 k hk) q3.2) rfl (by omega) (by omega) (by omega) rfl (fun _ => Nat.le_of_ble_eq_true rfl) ?_
      rintro _ _ ⟨rfl, F4, m4, rfl, hM4, hF4, e4, hS4⟩ -
      dsimp only [rp]
      refine go_iret dM_text_45 rfl rfl ?_
      exact fin F4 m4 _ hM4 hF4 hS4 e4 (by rw [if_pos ⟨hok, h33⟩, e30]) _ (by unfold v_text; rw [if_pos hok, if_neg h33]; omega)
    · refine go_ldc dM_text_36 kcM108 (inR_of _ rfl) ?_
      refine go_goto 45 dM_text_38 rfl ?_
      refine go_iret dM_text_45 rfl rfl ?_
      exact fin F3 m3 _ hM3 FR.rf SB.rf e30 (by rw [if_neg (fun h => h.2 h33)]) _ (by unfold v_text; rw [if_pos hok, if_pos h33])
  · have hfr : m3 17 12 = ((mR m).fr : Nat) := by rw [k3]; exact h2.2.2.2.2.1
    rw [if_neg hok]
    refine go_if_eq 24 dM_text_13 rfl (fun h13 => ?_) (fun h13 => ?_)
    · omega
    · refine go_bipush dM_text_16 (inR_of _ rfl) rfl ?_
      refine go_aload_n (i := 0) dM_text_18 rfl rfl trivial ?_
      refine go_getf dM_text_19 flM237 (by assumption) rfl ?_
      rw [hfr]
      have hle : (mR m).fr ≤ 1000 := by
        have hw0 : ZR.wf ((0, 0, 0, [], 0, true) : ZR) (m 17 11).toNat := ⟨Nat.le_refl _, Nat.zero_le _, fun h => absurd rfl h, Nat.zero_le _⟩
        obtain ⟨hwR, -⟩ := ZR.nx_wf hB hw0
        have hwR : (zR0 (mB m) (m 17 11).toNat).wf (m 17 11).toNat := hwR
        obtain ⟨hwS, hSf⟩ := ZR.nx_wf hB hwR
        have g1 := zpar_go hB (zkey (mB m) (zR0 (mB m) (m 17 11).toNat)).toNat 800 0 0 0 _ hwS rfl
        have g2 : (zR1 (mB m) (m 17 11).toNat).wf (m 17 11).toNat := g1.1
        have a1 := hwR.1
        have a2 := hwR.2.1
        have a3 := g2.1
        have a4 := g2.2.1
        unfold mR zprs
        split
        · show (zR0 (mB m) (m 17 11).toNat).fr ≤ 1000
          omega
        · split
          · omega
          · show (zR1 (mB m) (m 17 11).toNat).fr ≤ 1000
            omega
      refine go_isub dM_text_22 ?_
      refine go_top (-100 - ((mR m).fr : Nat)) (by (try simp (discharger := (unfold inR; omega)) only [w32_id]) <;> omega) ?_
      refine go_iret dM_text_23 rfl rfl ?_
      exact fin F3 m3 _ hM3 FR.rf SB.rf e30 (by rw [if_neg (fun h => hok h.1)]) _ (by unfold v_text; rw [if_neg hok])
def v_textTold (s : Nat → Int) (t w : Int) : Int := if (0 ≤ t ∧ t < s 64) ∧ 0 ≤ w ∧ w ≤ 1 then (if w = 0 then s (68 + t.toNat) else s (96 + t.toNat)) else BAD
theorem bM_textTold (hM : MOD F r m) (hT : zT (m 0)) {t w : Int} : CT g yM_textTold 1 0 0 [gR r, gI t, gI w] (N, F) (MB N r F (gI (v_textTold (m 0) t w)) m) := by
  have ho := hM.1
  have a0 := hM.a0
  have h64 := hT.1
  have t50 : ¬ ((0 ≤ t ∧ t < m 0 64) ∧ 0 ≤ w ∧ w ≤ 1) → Go g yM_textTold 1 0 0 50 [gR r, gI t, gI w] [] (N, F) (MB N r F (gI (v_textTold (m 0) t w)) m) := by
    intro hc
    refine go_ldc dM_textTold_50 kcM96 (inR_of _ rfl) ?_
    refine go_iret dM_textTold_52 rfl rfl ?_
    exact MB.same hM (by unfold v_textTold; rw [if_neg hc])
  refine CT.of' (L0 := [gR r, gI t, gI w]) plM (Nat.le_of_ble_eq_true rfl) rfl ?_
  refine go_iload_n (i := 1) dM_textTold_0 rfl rfl ?_
  refine go_i2l dM_textTold_1 ?_
  refine go_lconst (x := 0) dM_textTold_2 (inL_of2 _ rfl) rfl ?_
  refine go_aload_n (i := 0) dM_textTold_3 rfl rfl trivial ?_
  refine go_getf dM_textTold_4 flM7 (by assumption) rfl ?_
  refine go_bipush dM_textTold_7 (inR_of _ rfl) rfl ?_
  refine go_iald' 64 _ dM_textTold_9 (by assumption) rfl (by omega) rfl ?_
  refine go_iconst dM_textTold_10 (inR_of _ rfl) ?_
  refine go_isub dM_textTold_11 ?_
  refine go_top (m 0 64 - 1) (by (try simp (discharger := (unfold inR; omega)) only [w32_id]) <;> omega) ?_
  refine go_i2l dM_textTold_12 ?_
  refine go_SP dM_textTold_13 vkM65 (ct_in _ _ _) rfl (by omega) rfl (fun _ => Nat.le_of_ble_eq_true rfl) ?_
  refine go_if_eq 50 dM_textTold_16 rfl (fun h16 => ?_) (fun h16 => ?_)
  · exact t50 (by grind [zin])
  · refine go_iload_n (i := 2) dM_textTold_19 rfl rfl ?_
    refine go_i2l dM_textTold_20 ?_
    refine go_lconst (x := 0) dM_textTold_21 (inL_of2 _ rfl) rfl ?_
    refine go_lconst (x := 1) dM_textTold_22 (inL_of2 _ rfl) rfl ?_
    refine go_SP dM_textTold_23 vkM65 (ct_in _ _ _) rfl (by omega) rfl (fun _ => Nat.le_of_ble_eq_true rfl) ?_
    refine go_if_eq 50 dM_textTold_26 rfl (fun h26 => ?_) (fun h26 => ?_)
    · exact t50 (by grind [zin])
    · have hc : (0 ≤ t ∧ t < m 0 64) ∧ 0 ≤ w ∧ w ≤ 1 := by grind [zin]
      refine go_aload_n (i := 0) dM_textTold_29 rfl rfl trivial ?_
      refine go_getf dM_textTold_30 flM7 (by assumption) rfl ?_
      refine go_iload_n (i := 2) dM_textTold_33 rfl rfl ?_
      refine go_if_ne 42 dM_textTold_34 rfl (fun h34 => ?_) (fun h34 => ?_)
      · refine go_bipush dM_textTold_42 (inR_of _ rfl) rfl ?_
        refine go_iload_n (i := 1) dM_textTold_44 rfl rfl ?_
        refine go_iadd dM_textTold_45 ?_
        refine go_top (((96 + t.toNat : Nat) : Int)) (by (try simp (discharger := (unfold inR; omega)) only [w32_id]) <;> omega) ?_
        refine go_iald' (96 + t.toNat) _ dM_textTold_46 hM.a0 rfl (by omega) rfl ?_
        refine go_goto 52 dM_textTold_47 rfl ?_
        refine go_iret dM_textTold_52 rfl rfl ?_
        exact MB.same hM (by unfold v_textTold; rw [if_pos hc, if_neg h34])
      · refine go_bipush dM_textTold_37 (inR_of _ rfl) rfl ?_
        refine go_goto 44 dM_textTold_39 rfl ?_
        refine go_iload_n (i := 1) dM_textTold_44 rfl rfl ?_
        refine go_iadd dM_textTold_45 ?_
        refine go_top (((68 + t.toNat : Nat) : Int)) (by (try simp (discharger := (unfold inR; omega)) only [w32_id]) <;> omega) ?_
        refine go_iald' (68 + t.toNat) _ dM_textTold_46 hM.a0 rfl (by omega) rfl ?_
        refine go_goto 52 dM_textTold_47 rfl ?_
        refine go_iret dM_textTold_52 rfl rfl ?_
        exact MB.same hM (by unfold v_textTold; rw [if_pos hc, if_pos h34])
def v_why (s : Nat → Int) (k : Int) : Int := if 0 ≤ k ∧ k ≤ 2 then (if s (65 + k.toNat) < 0 then NONE else s (65 + k.toNat)) else BAD
theorem bM_why (hM : MOD F r m) {k : Int} : CT g yM_why 1 0 0 [gR r, gI k] (N, F) (MB N r F (gI (v_why (m 0) k)) m) := by
  have ho := hM.1
  have a0 := hM.a0
  refine CT.of' (L0 := [gR r, gI k]) plM (Nat.le_of_ble_eq_true rfl) rfl ?_
  refine go_iload_n (i := 1) dM_why_0 rfl rfl ?_
  refine go_i2l dM_why_1 ?_
  refine go_lconst (x := 0) dM_why_2 (inL_of2 _ rfl) rfl ?_
  refine go_ldc2 dM_why_3 kcM323 (inL_of2 _ rfl) ?_
  refine go_SP dM_why_6 vkM65 (ct_in _ _ _) rfl (by omega) rfl (fun _ => Nat.le_of_ble_eq_true rfl) ?_
  refine go_if_ne 15 dM_why_9 rfl (fun h9 => ?_) (fun h9 => ?_)
  · have hc : 0 ≤ k ∧ k ≤ 2 := by grind [zin]
    refine go_aload_n (i := 0) dM_why_15 rfl rfl trivial ?_
    refine go_getf dM_why_16 flM7 (by assumption) rfl ?_
    refine go_bipush dM_why_19 (inR_of _ rfl) rfl ?_
    refine go_iload_n (i := 1) dM_why_21 rfl rfl ?_
    refine go_iadd dM_why_22 ?_
    refine go_top (((65 + k.toNat : Nat) : Int)) (by (try simp (discharger := (unfold inR; omega)) only [w32_id]) <;> omega) ?_
    refine go_iald' (65 + k.toNat) _ dM_why_23 hM.a0 rfl (by omega) rfl ?_
    refine go_if_ge 32 dM_why_24 rfl (fun h24 => ?_) (fun h24 => ?_)
    · refine go_aload_n (i := 0) dM_why_32 rfl rfl trivial ?_
      refine go_getf dM_why_33 flM7 (by assumption) rfl ?_
      refine go_bipush dM_why_36 (inR_of _ rfl) rfl ?_
      refine go_iload_n (i := 1) dM_why_38 rfl rfl ?_
      refine go_iadd dM_why_39 ?_
      refine go_top (((65 + k.toNat : Nat) : Int)) (by (try simp (discharger := (unfold inR; omega)) only [w32_id]) <;> omega) ?_
      refine go_iald' (65 + k.toNat) _ dM_why_40 hM.a0 rfl (by omega) rfl ?_
      refine go_iret dM_why_41 rfl rfl ?_
      exact MB.same hM (by unfold v_why; rw [if_pos hc, if_neg (by omega)])
    · refine go_ldc dM_why_27 kcM169 (inR_of _ rfl) ?_
      refine go_goto 41 dM_why_29 rfl ?_
      refine go_iret dM_why_41 rfl rfl ?_
      exact MB.same hM (by unfold v_why; rw [if_pos hc, if_pos (by omega)])
  · refine go_ldc dM_why_12 kcM96 (inR_of _ rfl) ?_
    refine go_iret dM_why_14 rfl rfl ?_
    exact MB.same hM (by unfold v_why; grind [zin])
end MLAYS
