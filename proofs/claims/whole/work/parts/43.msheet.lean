/-! ===== the model's sheets ===== -/
section MSHEET
variable {g : GX} {N r : Nat} {F F1 F2 : Nat → GC} {m m1 m2 : Nat → Nat → Int}
abbrev MISSING : Int := -1000000011
abbrev WRONG : Int := -1000000012
abbrev OUT : Int := -1000000013
theorem MB.eq {U : Nat → Nat → Int} (hM2 : MOD F2 r m2) (hF2 : FR r F F2) (e : m2 = U) {v v' : Int} (h : v' = v) : MB N r F (gI v) U (gI v') (N, F2) := ⟨by rw [h], F2, m2, rfl, hM2, hF2, by rw [e]; exact EQ.rf⟩
/-- sheets as they may be -/
def mSh (m : Nat → Nat → Int) : Prop := ∀ k : Nat, k < 9 → (-1 ≤ m 9 k ∧ m 9 k ≤ 1) ∧ 0 ≤ m 10 k ∧ m 10 k ≤ 24
def u_missing (m : Nat → Nat → Int) (k : Nat) : Nat → Nat → Int := va_up (va_up m 9 (va_up (m 9) k (-1))) 10 (va_up (m 10) k 0)
theorem qM_missing (hM : MOD F r m) {k : Nat} (hk : k < 9) : CT g yM_missing 0 0 0 [gR r, gI (k : Int)] (N, F) (MB N r F (gI 0) (u_missing m k)) := by
  have ho := hM.1
  refine CT.of' (L0 := [gR r, gI (k : Int)]) plM (Nat.le_of_ble_eq_true rfl) rfl ?_
  refine go_aload_n (i := 0) dM_missing_0 rfl rfl trivial ?_
  refine go_getf dM_missing_1 flM37 (by assumption) rfl ?_
  refine go_iload_n (i := 1) dM_missing_4 rfl rfl ?_
  refine go_iconst dM_missing_5 (inR_of _ rfl) ?_
  refine go_mst (i := 9) (k := k) hM (by omega) dM_missing_6 rfl rfl (by show k < 9; omega) (fun F1 m1 hM1 hF1 e1 => ?_)
  have ho1 := hM1.1
  refine go_aload_n (i := 0) dM_missing_7 rfl rfl trivial ?_
  refine go_getf dM_missing_8 flM40 (by assumption) rfl ?_
  refine go_iload_n (i := 1) dM_missing_11 rfl rfl ?_
  refine go_iconst dM_missing_12 (inR_of _ rfl) ?_
  refine go_mst (i := 10) (k := k) hM1 (by omega) dM_missing_13 rfl rfl (by show k < 9; omega) (fun F2 m2 hM2 hF2 e2 => ?_)
  refine go_iconst dM_missing_14 (inR_of _ rfl) ?_
  refine go_iret dM_missing_15 rfl rfl ?_
  exact MB.eq hM2 (hF1.tr hF2) (by rw [e2, e1]; rfl) rfl
/-- n places from b on become f -/
def zcp (T : Nat → Int) (b : Nat) (f : Nat → Int) : Nat → Nat → Int
  | 0 => T
  | k + 1 => va_up (zcp T b f k) (b + k) (f k)
def v_sheet (k so n : Int) : Int := if (0 ≤ k ∧ k ≤ 3) ∧ (-1 ≤ so ∧ so ≤ 1) ∧ (so < 0 ∨ n ≤ 24) then (if so < 0 then 0 else if n < 0 then -1000000014 else n) else BAD
def u_sheet (m : Nat → Nat → Int) (k so n : Int) : Nat → Nat → Int := if (0 ≤ k ∧ k ≤ 3) ∧ (-1 ≤ so ∧ so ≤ 1) ∧ (so < 0 ∨ n ≤ 24) then (if so < 0 then u_missing m k.toNat else if n < 0 then m else va_up (va_up (va_up m 9 (va_up (m 9) k.toNat so)) 10 (va_up (m 10) k.toNat n)) 11 (zcp (m 11) (24 * k.toNat) (fun _ => 0) 24)) else m
theorem bM_sheet (hM : MOD F r m) {k so n : Int} : CT g yM_sheet 2 0 0 [gR r, gI k, gI so, gI n] (N, F) (MB N r F (gI (v_sheet k so n)) (u_sheet m k so n)) := by
  have ho := hM.1
  have t29 : ¬ ((0 ≤ k ∧ k ≤ 3) ∧ (-1 ≤ so ∧ so ≤ 1) ∧ (so < 0 ∨ n ≤ 24)) → Go g yM_sheet 2 0 0 29 [gR r, gI k, gI so, gI n, gU] [] (N, F) (MB N r F (gI (v_sheet k so n)) (u_sheet m k so n)) := by
    intro hc
    refine go_ldc dM_sheet_29 kcM96 (inR_of _ rfl) ?_
    refine go_iret dM_sheet_31 rfl rfl ?_
    exact MB.eq hM FR.rf (by unfold u_sheet; rw [if_neg hc]) (by unfold v_sheet; rw [if_neg hc])
  have t32 : (0 ≤ k ∧ k ≤ 3) ∧ (-1 ≤ so ∧ so ≤ 1) ∧ (so < 0 ∨ n ≤ 24) → Go g yM_sheet 2 0 0 32 [gR r, gI k, gI so, gI n, gU] [] (N, F) (MB N r F (gI (v_sheet k so n)) (u_sheet m k so n)) := by
    intro hc
    have hv : v_sheet k so n = (if so < 0 then 0 else if n < 0 then -1000000014 else n) := by unfold v_sheet; rw [if_pos hc]
    have hu : u_sheet m k so n = (if so < 0 then u_missing m k.toNat else if n < 0 then m else va_up (va_up (va_up m 9 (va_up (m 9) k.toNat so)) 10 (va_up (m 10) k.toNat n)) 11 (zcp (m 11) (24 * k.toNat) (fun _ => 0) 24)) := by unfold u_sheet; rw [if_pos hc]
    rw [hv, hu]
    have ek : k = ((k.toNat : Nat) : Int) := by omega
    generalize hkk : k.toNat = kk at *
    subst ek
    refine go_iload_n (i := 2) dM_sheet_32 rfl rfl ?_
    refine go_if_ge 42 dM_sheet_33 rfl (fun h33 => ?_) (fun h33 => ?_)
    · rw [if_neg (show ¬ so < 0 by omega), if_neg (show ¬ so < 0 by omega)]
      refine go_iload_n (i := 3) dM_sheet_42 rfl rfl ?_
      refine go_if_ge 50 dM_sheet_43 rfl (fun h43 => ?_) (fun h43 => ?_)
      · rw [if_neg (show ¬ n < 0 by omega), if_neg (show ¬ n < 0 by omega)]
        have loop : ∀ (j i : Nat), i + j = 24 → ∀ (F1 : Nat → GC) (m1 : Nat → Nat → Int), MOD F1 r m1 → FR r F F1 → m1 = va_up (va_up (va_up m 9 (va_up (m 9) kk so)) 10 (va_up (m 10) kk n)) 11 (zcp (m 11) (24 * kk) (fun _ => 0) i) → Go g yM_sheet 2 0 0 67 [gR r, gI (kk : Int), gI so, gI n, gI i] [] (N, F1) (MB N r F (gI n) (va_up (va_up (va_up m 9 (va_up (m 9) kk so)) 10 (va_up (m 10) kk n)) 11 (zcp (m 11) (24 * kk) (fun _ => 0) 24))) := by
          intro j
          induction j with
          | zero =>
            intro i hi F1 m1 hM1 hF1 e1
            have hi : i = 24 := by omega
            subst hi
            refine go_iload dM_sheet_67 rfl ?_
            refine go_bipush dM_sheet_69 (inR_of _ rfl) rfl ?_
            refine go_ic_ge 93 dM_sheet_71 rfl (fun h71 => ?_) (fun h71 => absurd (by omega) h71)
            refine go_iload_n (i := 3) dM_sheet_93 rfl rfl ?_
            refine go_iret dM_sheet_94 rfl rfl ?_
            exact MB.eq hM1 hF1 e1 rfl
          | succ j ih =>
            intro i hi F1 m1 hM1 hF1 e1
            have ho := hM1.1
            refine go_iload dM_sheet_67 rfl ?_
            refine go_bipush dM_sheet_69 (inR_of _ rfl) rfl ?_
            refine go_ic_ge 93 dM_sheet_71 rfl (fun h71 => absurd h71 (by omega)) (fun h71 => ?_)
            refine go_aload_n (i := 0) dM_sheet_74 rfl rfl trivial ?_
            refine go_getf dM_sheet_75 flM43 (by assumption) rfl ?_
            refine go_bipush dM_sheet_78 (inR_of _ rfl) rfl ?_
            refine go_iload_n (i := 1) dM_sheet_80 rfl rfl ?_
            refine go_imul dM_sheet_81 ?_
            refine go_iload dM_sheet_82 rfl ?_
            refine go_iadd dM_sheet_84 ?_
            refine go_top (((24 * kk + i : Nat) : Int)) (by (try simp (discharger := (unfold inR; omega)) only [w32_id]) <;> omega) ?_
            refine go_iconst dM_sheet_85 (inR_of _ rfl) ?_
            refine go_mst (i := 11) (k := 24 * kk + i) hM1 (by omega) dM_sheet_86 rfl rfl (by show _ < 216; omega) (fun F2 m2 hM2 hF2 e2 => ?_)
            refine go_inc4 (((i + 1 : Nat) : Int)) dM_sheet_87 (Nat.le_of_ble_eq_true rfl) trivial (by (try simp (discharger := (unfold inR; omega)) only [w32_id]) <;> omega) ?_
            refine go_goto 67 dM_sheet_90 rfl ?_
            refine ih (i + 1) (by omega) F2 m2 hM2 (hF1.tr hF2) ?_
            rw [e2, e1, bx_uu]
            rfl
        refine go_aload_n (i := 0) dM_sheet_50 rfl rfl trivial ?_
        refine go_getf dM_sheet_51 flM37 (by assumption) rfl ?_
        refine go_iload_n (i := 1) dM_sheet_54 rfl rfl ?_
        refine go_iload_n (i := 2) dM_sheet_55 rfl rfl ?_
        refine go_mst (i := 9) (k := kk) hM (by omega) dM_sheet_56 rfl rfl (by show kk < 9; omega) (fun F1 m1 hM1 hF1 e1 => ?_)
        have ho1 := hM1.1
        refine go_aload_n (i := 0) dM_sheet_57 rfl rfl trivial ?_
        refine go_getf dM_sheet_58 flM40 (by assumption) rfl ?_
        refine go_iload_n (i := 1) dM_sheet_61 rfl rfl ?_
        refine go_iload_n (i := 3) dM_sheet_62 rfl rfl ?_
        refine go_mst (i := 10) (k := kk) hM1 (by omega) dM_sheet_63 rfl rfl (by show kk < 9; omega) (fun F2 m2 hM2 hF2 e2 => ?_)
        refine go_iconst dM_sheet_64 (inR_of _ rfl) ?_
        refine go_is4 dM_sheet_65 (Nat.le_of_ble_eq_true rfl) trivial ?_
        refine loop 24 0 (by omega) F2 m2 hM2 (hF1.tr hF2) ?_
        rw [e2, e1]
        show va_up (va_up m 9 (va_up (m 9) kk so)) 10 (va_up (m 10) kk n) = _
        funext q
        by_cases c : q = 11
        · subst c; rfl
        · rw [va_up_ne _ (zcp (m 11) (24 * kk) (fun _ => 0) 0) c]
      · rw [if_pos (show n < 0 by omega), if_pos (show n < 0 by omega)]
        refine go_ldcw dM_sheet_46 kcM332 (inR_of _ rfl) ?_
        refine go_iret dM_sheet_49 rfl rfl ?_
        exact MB.eq hM FR.rf rfl rfl
    · rw [if_pos (show so < 0 by omega), if_pos (show so < 0 by omega)]
      refine go_aload_n (i := 0) dM_sheet_36 rfl rfl trivial ?_
      refine go_iload_n (i := 1) dM_sheet_37 rfl rfl ?_
      refine go_VX dM_sheet_38 vkM329 (by assumption) (List.cons_ne_nil _ _) (qM_missing hM (k := kk) (by omega)) rfl (by omega) (by omega) (by omega) rfl (fun _ => Nat.le_of_ble_eq_true rfl) ?_
      rintro _ _ ⟨rfl, F2, m2, rfl, hM2, hF2, e2⟩ -
      dsimp only [rp]
      refine go_iret dM_sheet_41 rfl rfl ?_
      exact ⟨rfl, F2, m2, rfl, hM2, hF2, e2⟩
  refine CT.of' (L0 := [gR r, gI k, gI so, gI n, gU]) plM (Nat.le_of_ble_eq_true rfl) rfl ?_
  refine go_iload_n (i := 1) dM_sheet_0 rfl rfl ?_
  refine go_SP dM_sheet_1 vkM215 (ct_isSheet k) rfl (by omega) rfl (fun _ => Nat.le_of_ble_eq_true rfl) ?_
  refine go_if_eq 29 dM_sheet_4 rfl (fun h4 => ?_) (fun h4 => ?_)
  · exact t29 (by grind [zin])
  · refine go_iload_n (i := 2) dM_sheet_7 rfl rfl ?_
    refine go_i2l dM_sheet_8 ?_
    refine go_ldc2 dM_sheet_9 kcM327 (inL_of2 _ rfl) ?_
    refine go_lconst (x := 1) dM_sheet_12 (inL_of2 _ rfl) rfl ?_
    refine go_SP dM_sheet_13 vkM65 (ct_in _ _ _) rfl (by omega) rfl (fun _ => Nat.le_of_ble_eq_true rfl) ?_
    refine go_if_eq 29 dM_sheet_16 rfl (fun h16 => ?_) (fun h16 => ?_)
    · exact t29 (by grind [zin])
    · refine go_iload_n (i := 2) dM_sheet_19 rfl rfl ?_
      refine go_if_lt 32 dM_sheet_20 rfl (fun h20 => ?_) (fun h20 => ?_)
      · exact t32 (by grind [zin])
      · refine go_iload_n (i := 3) dM_sheet_23 rfl rfl ?_
        refine go_bipush dM_sheet_24 (inR_of _ rfl) rfl ?_
        refine go_ic_le 32 dM_sheet_26 rfl (fun h26 => ?_) (fun h26 => ?_)
        · exact t32 (by grind [zin])
        · exact t29 (by grind [zin])
def v_wp (m : Nat → Nat → Int) (k p : Int) : Int := if 0 ≤ k ∧ k ≤ 3 then (if m 9 k.toNat < 0 then MISSING else if 0 ≤ p ∧ p < m 10 k.toNat then 0 else OUT) else BAD
theorem qM_wrongPlace (hM : MOD F r m) (hs : mSh m) {k p : Int} : CT g yM_wrongPlace 2 0 0 [gR r, gI k, gI p] (N, F) (RV (v_wp m k p) (N, F)) := by
  have ho := hM.1
  refine CT.of' (L0 := [gR r, gI k, gI p]) plM (Nat.le_of_ble_eq_true rfl) rfl ?_
  refine go_iload_n (i := 1) dM_wrongPlace_0 rfl rfl ?_
  refine go_SP dM_wrongPlace_1 vkM215 (ct_isSheet k) rfl (by omega) rfl (fun _ => Nat.le_of_ble_eq_true rfl) ?_
  refine go_if_ne 10 dM_wrongPlace_4 rfl (fun h4 => ?_) (fun h4 => ?_)
  · have hc : 0 ≤ k ∧ k ≤ 3 := by grind [zin]
    have h9 := hs k.toNat (by omega)
    refine go_aload_n (i := 0) dM_wrongPlace_10 rfl rfl trivial ?_
    refine go_getf dM_wrongPlace_11 flM37 (by assumption) rfl ?_
    refine go_iload_n (i := 1) dM_wrongPlace_14 rfl rfl ?_
    refine go_iald' k.toNat _ dM_wrongPlace_15 hM.a9 (by omega) (by omega) rfl ?_
    refine go_if_ge 22 dM_wrongPlace_16 rfl (fun h16 => ?_) (fun h16 => ?_)
    · refine go_iload_n (i := 2) dM_wrongPlace_22 rfl rfl ?_
      refine go_i2l dM_wrongPlace_23 ?_
      refine go_lconst (x := 0) dM_wrongPlace_24 (inL_of2 _ rfl) rfl ?_
      refine go_aload_n (i := 0) dM_wrongPlace_25 rfl rfl trivial ?_
      refine go_getf dM_wrongPlace_26 flM40 (by assumption) rfl ?_
      refine go_iload_n (i := 1) dM_wrongPlace_29 rfl rfl ?_
      refine go_iald' k.toNat _ dM_wrongPlace_30 hM.a10 (by omega) (by omega) rfl ?_
      refine go_iconst dM_wrongPlace_31 (inR_of _ rfl) ?_
      refine go_isub dM_wrongPlace_32 ?_
      refine go_top (m 10 k.toNat - 1) (by (try simp (discharger := (unfold inR; omega)) only [w32_id]) <;> omega) ?_
      refine go_i2l dM_wrongPlace_33 ?_
      refine go_SP dM_wrongPlace_34 vkM65 (ct_in _ _ _) rfl (by omega) rfl (fun _ => Nat.le_of_ble_eq_true rfl) ?_
      refine go_if_eq 44 dM_wrongPlace_37 rfl (fun h37 => ?_) (fun h37 => ?_)
      · refine go_ldcw dM_wrongPlace_44 kcM333 (inR_of _ rfl) ?_
        refine go_iret dM_wrongPlace_47 rfl rfl ?_
        exact ⟨by unfold v_wp; rw [if_pos hc, if_neg (by omega), if_neg (by grind [zin])], rfl⟩
      · refine go_iconst dM_wrongPlace_40 (inR_of _ rfl) ?_
        refine go_goto 47 dM_wrongPlace_41 rfl ?_
        refine go_iret dM_wrongPlace_47 rfl rfl ?_
        exact ⟨by unfold v_wp; rw [if_pos hc, if_neg (by omega), if_pos (by grind [zin])], rfl⟩
    · refine go_ldc dM_wrongPlace_19 kcM218 (inR_of _ rfl) ?_
      refine go_iret dM_wrongPlace_21 rfl rfl ?_
      exact ⟨by unfold v_wp; rw [if_pos hc, if_pos (by omega)], rfl⟩
  · refine go_ldc dM_wrongPlace_7 kcM96 (inR_of _ rfl) ?_
    refine go_iret dM_wrongPlace_9 rfl rfl ?_
    exact ⟨by unfold v_wp; rw [if_neg (by grind [zin])], rfl⟩
def c_mark (m : Nat → Nat → Int) (k v : Int) : Int := if m 9 k.toNat = 0 ∧ v = NONE then WRONG else if m 9 k.toNat = 1 ∧ ¬ v = NONE ∧ ¬ (-99999 ≤ v ∧ v ≤ 99999) then BAD else 1
def v_mark (m : Nat → Nat → Int) (k p v : Int) : Int := if v_wp m k p = 0 then c_mark m k v else v_wp m k p
def u_mark (m : Nat → Nat → Int) (k p v : Int) : Nat → Nat → Int := if v_wp m k p = 0 ∧ c_mark m k v = 1 then va_up m 11 (va_up (m 11) (24 * k.toNat + p.toNat) (if m 9 k.toNat = 0 then iI2s v else v)) else m
theorem bM_mark (hM : MOD F r m) (hs : mSh m) {k p v : Int} : CT g yM_mark 3 0 0 [gR r, gI k, gI p, gI v] (N, F) (MB N r F (gI (v_mark m k p v)) (u_mark m k p v)) := by
  have ho := hM.1
  have bad : ∀ x : Int, x = v_mark m k p v → ¬ (v_wp m k p = 0 ∧ c_mark m k v = 1) → MB N r F (gI (v_mark m k p v)) (u_mark m k p v) (gI x) (N, F) := by
    intro x hx hc
    exact MB.eq hM FR.rf (by unfold u_mark; rw [if_neg hc]) hx
  have hwp : v_wp m k p = 0 → (0 ≤ k ∧ k ≤ 3) ∧ ¬ m 9 k.toNat < 0 ∧ 0 ≤ p ∧ p < m 10 k.toNat := by
    intro h
    unfold v_wp at h
    split at h
    · rename_i c1
      split at h
      · exact absurd h (by decide)
      · rename_i c2
        split at h
        · rename_i c3; exact ⟨c1, c2, c3⟩
        · exact absurd h (by decide)
    · exact absurd h (by decide)
  have t67 : v_wp m k p = 0 → c_mark m k v = 1 → Go g yM_mark 3 0 0 67 [gR r, gI k, gI p, gI v, gI (v_wp m k p)] [] (N, F) (MB N r F (gI (v_mark m k p v)) (u_mark m k p v)) := by
    intro h1 h2
    obtain ⟨hk, h9, hp⟩ := hwp h1
    have h10 := hs k.toNat (by omega)
    have hu : u_mark m k p v = va_up m 11 (va_up (m 11) (24 * k.toNat + p.toNat) (if m 9 k.toNat = 0 then iI2s v else v)) := by unfold u_mark; rw [if_pos ⟨h1, h2⟩]
    have hv : v_mark m k p v = 1 := by unfold v_mark; rw [if_pos h1, h2]
    rw [hu, hv]
    have t92 : ∀ x : Int, x = (if m 9 k.toNat = 0 then iI2s v else v) → Go g yM_mark 3 0 0 92 [gR r, gI k, gI p, gI v, gI (v_wp m k p)] [gI x, gI ((24 * k.toNat + p.toNat : Nat) : Int), gR (r + 12)] (N, F) (MB N r F (gI 1) (va_up m 11 (va_up (m 11) (24 * k.toNat + p.toNat) (if m 9 k.toNat = 0 then iI2s v else v)))) := by
      intro x hx
      refine go_mst (i := 11) (k := 24 * k.toNat + p.toNat) hM (by omega) dM_mark_92 rfl rfl (by show _ < 216; omega) (fun F2 m2 hM2 hF2 e2 => ?_)
      refine go_iconst dM_mark_93 (inR_of _ rfl) ?_
      refine go_iret dM_mark_94 rfl rfl ?_
      exact MB.eq hM2 hF2 (by rw [e2, hx]) rfl
    refine go_aload_n (i := 0) dM_mark_67 rfl rfl trivial ?_
    refine go_getf dM_mark_68 flM43 (by assumption) rfl ?_
    refine go_bipush dM_mark_71 (inR_of _ rfl) rfl ?_
    refine go_iload_n (i := 1) dM_mark_73 rfl rfl ?_
    refine go_imul dM_mark_74 ?_
    refine go_iload_n (i := 2) dM_mark_75 rfl rfl ?_
    refine go_iadd dM_mark_76 ?_
    refine go_top (((24 * k.toNat + p.toNat : Nat) : Int)) (by (try simp (discharger := (unfold inR; omega)) only [w32_id]) <;> omega) ?_
    refine go_aload_n (i := 0) dM_mark_77 rfl rfl trivial ?_
    refine go_getf dM_mark_78 flM37 (by assumption) rfl ?_
    refine go_iload_n (i := 1) dM_mark_81 rfl rfl ?_
    refine go_iald' k.toNat _ dM_mark_82 hM.a9 (by omega) (by omega) rfl ?_
    refine go_if_ne 91 dM_mark_83 rfl (fun h83 => ?_) (fun h83 => ?_)
    · refine go_iload_n (i := 3) dM_mark_91 rfl rfl ?_
      exact t92 _ (by rw [if_neg h83])
    · refine go_iload_n (i := 3) dM_mark_86 rfl rfl ?_
      refine go_i2s dM_mark_87 ?_
      refine go_goto 92 dM_mark_88 rfl ?_
      exact t92 _ (by rw [if_pos h83])
  refine CT.of' (L0 := [gR r, gI k, gI p, gI v, gU]) plM (Nat.le_of_ble_eq_true rfl) rfl ?_
  refine go_aload_n (i := 0) dM_mark_0 rfl rfl trivial ?_
  refine go_iload_n (i := 1) dM_mark_1 rfl rfl ?_
  refine go_iload_n (i := 2) dM_mark_2 rfl rfl ?_
  refine go_VP dM_mark_3 vkM334 (by assumption) (List.cons_ne_nil _ _) (qM_wrongPlace hM hs) rfl (by omega) rfl (fun _ => Nat.le_of_ble_eq_true rfl) ?_
  refine go_is4 dM_mark_6 (Nat.le_of_ble_eq_true rfl) trivial ?_
  refine go_iload dM_mark_8 rfl ?_
  refine go_if_eq 16 dM_mark_10 rfl (fun h10 => ?_) (fun h10 => ?_)
  · obtain ⟨hk, h9, hp⟩ := hwp h10
    have hs9 := hs k.toNat (by omega)
    have t34 : ¬ (m 9 k.toNat = 0 ∧ v = NONE) → Go g yM_mark 3 0 0 34 [gR r, gI k, gI p, gI v, gI (v_wp m k p)] [] (N, F) (MB N r F (gI (v_mark m k p v)) (u_mark m k p v)) := by
      intro hn
      refine go_aload_n (i := 0) dM_mark_34 rfl rfl trivial ?_
      refine go_getf dM_mark_35 flM37 (by assumption) rfl ?_
      refine go_iload_n (i := 1) dM_mark_38 rfl rfl ?_
      refine go_iald' k.toNat _ dM_mark_39 hM.a9 (by omega) (by omega) rfl ?_
      refine go_iconst dM_mark_40 (inR_of _ rfl) ?_
      refine go_ic_ne 67 dM_mark_41 rfl (fun h41 => ?_) (fun h41 => ?_)
      · exact t67 h10 (by unfold c_mark; rw [if_neg hn, if_neg (fun h => h41 h.1)])
      · refine go_iload_n (i := 3) dM_mark_44 rfl rfl ?_
        refine go_ldc dM_mark_45 kcM169 (inR_of _ rfl) ?_
        refine go_ic_eq 67 dM_mark_47 rfl (fun h47 => ?_) (fun h47 => ?_)
        · exact t67 h10 (by unfold c_mark; rw [if_neg hn, if_neg (fun h => h.2.1 h47)])
        · refine go_iload_n (i := 3) dM_mark_50 rfl rfl ?_
          refine go_i2l dM_mark_51 ?_
          refine go_ldc2 dM_mark_52 kcM337 (inL_of2 _ rfl) ?_
          refine go_ldc2 dM_mark_55 kcM213 (inL_of2 _ rfl) ?_
          refine go_SP dM_mark_58 vkM65 (ct_in _ _ _) rfl (by omega) rfl (fun _ => Nat.le_of_ble_eq_true rfl) ?_
          refine go_if_ne 67 dM_mark_61 rfl (fun h61 => ?_) (fun h61 => ?_)
          · exact t67 h10 (by unfold c_mark; rw [if_neg hn, if_neg (fun h => h.2.2 (by grind [zin]))])
          · refine go_ldc dM_mark_64 kcM96 (inR_of _ rfl) ?_
            refine go_iret dM_mark_66 rfl rfl ?_
            have hc : c_mark m k v = BAD := by unfold c_mark; rw [if_neg hn, if_pos ⟨h41, h47, by grind [zin]⟩]
            exact bad _ (by unfold v_mark; rw [if_pos h10, hc]) (fun h => by rw [hc] at h; exact absurd h.2 (by decide))
    refine go_aload_n (i := 0) dM_mark_16 rfl rfl trivial ?_
    refine go_getf dM_mark_17 flM37 (by assumption) rfl ?_
    refine go_iload_n (i := 1) dM_mark_20 rfl rfl ?_
    refine go_iald' k.toNat _ dM_mark_21 hM.a9 (by omega) (by omega) rfl ?_
    refine go_if_ne 34 dM_mark_22 rfl (fun h22 => ?_) (fun h22 => ?_)
    · exact t34 (fun h => h22 h.1)
    · refine go_iload_n (i := 3) dM_mark_25 rfl rfl ?_
      refine go_ldc dM_mark_26 kcM169 (inR_of _ rfl) ?_
      refine go_ic_ne 34 dM_mark_28 rfl (fun h28 => ?_) (fun h28 => ?_)
      · exact t34 (fun h => h28 h.2)
      · refine go_ldc dM_mark_31 kcM129 (inR_of _ rfl) ?_
        refine go_iret dM_mark_33 rfl rfl ?_
        have hc : c_mark m k v = WRONG := by unfold c_mark; rw [if_pos ⟨h22, h28⟩]
        exact bad _ (by unfold v_mark; rw [if_pos h10, hc]) (fun h => by rw [hc] at h; exact absurd h.2 (by decide))
  · refine go_iload dM_mark_13 rfl ?_
    refine go_iret dM_mark_15 rfl rfl ?_
    exact bad _ (by unfold v_mark; rw [if_neg h10]) (fun h => h10 h.1)
end MSHEET
