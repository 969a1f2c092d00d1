section MSLOT2
variable {g : GX} {N r : Nat} {F F1 F2 : Nat → GC} {m m1 m2 : Nat → Nat → Int}
def v_ask (m : Nat → Nat → Int) (k o : Int) : Int := if (0 ≤ k ∧ k ≤ 4) ∧ 0 ≤ o ∧ o ≤ 5 then (if m 13 k.toNat = 0 then MISSING else if m 13 k.toNat = 1 ∧ zunder (m 15 (4 * k.toNat)) o = 1 then zworth (m 15 (4 * k.toNat)) (m 15 (4 * k.toNat + 1)) (m 15 (4 * k.toNat + 2)) (m 15 (4 * k.toNat + 3)) else WRONG) else BAD
theorem bM_ask (hM : MOD F r m) {k o : Int} : CT g yM_ask 2 0 0 [gR r, gI k, gI o] (N, F) (MB N r F (gI (v_ask m k o)) m) := by
  have ho := hM.1
  have t14 : ¬ ((0 ≤ k ∧ k ≤ 4) ∧ 0 ≤ o ∧ o ≤ 5) → Go g yM_ask 2 0 0 14 [gR r, gI k, gI o, gU, gU] [] (N, F) (MB N r F (gI (v_ask m k o)) m) := by
    intro hc
    refine go_ldc dM_ask_14 kcM96 (inR_of _ rfl) ?_
    refine go_iret dM_ask_16 rfl rfl ?_
    exact MB.same hM (by unfold v_ask; rw [if_neg hc])
  refine CT.of' (L0 := [gR r, gI k, gI o, gU, gU]) plM (Nat.le_of_ble_eq_true rfl) rfl ?_
  refine go_iload_n (i := 1) dM_ask_0 rfl rfl ?_
  refine go_SP dM_ask_1 vkM349 (ct_isSlot k) rfl (by omega) rfl (fun _ => Nat.le_of_ble_eq_true rfl) ?_
  refine go_if_eq 14 dM_ask_4 rfl (fun h4 => ?_) (fun h4 => ?_)
  · exact t14 (by grind [zin])
  · refine go_iload_n (i := 2) dM_ask_7 rfl rfl ?_
    refine go_SP dM_ask_8 vkM100 (ct_isKind _) rfl (by omega) rfl (fun _ => Nat.le_of_ble_eq_true rfl) ?_
    refine go_if_ne 17 dM_ask_11 rfl (fun h11 => ?_) (fun h11 => ?_)
    · have hc : (0 ≤ k ∧ k ≤ 4) ∧ 0 ≤ o ∧ o ≤ 5 := by grind [zin]
      refine go_aload_n (i := 0) dM_ask_17 rfl rfl trivial ?_
      refine go_getf dM_ask_18 flM49 (by assumption) rfl ?_
      refine go_iload_n (i := 1) dM_ask_21 rfl rfl ?_
      refine go_iald' k.toNat _ dM_ask_22 hM.a13 (by omega) (by omega) rfl ?_
      refine go_if_ne 29 dM_ask_23 rfl (fun h23 => ?_) (fun h23 => ?_)
      · have hu := zunder01 (m 15 (4 * k.toNat)) o
        have t61 : ∀ x : Int, (x ≠ 0 ↔ (m 13 k.toNat = 1 ∧ zunder (m 15 (4 * k.toNat)) o = 1)) → Go g yM_ask 2 0 0 61 [gR r, gI k, gI o, gI (m 15 (4 * k.toNat)), gU] [gI x] (N, F) (MB N r F (gI (v_ask m k o)) m) := by
          intro x hx
          refine go_is4 dM_ask_61 (Nat.le_of_ble_eq_true rfl) trivial ?_
          refine go_iload dM_ask_63 rfl ?_
          refine go_if_eq 105 dM_ask_65 rfl (fun h65 => ?_) (fun h65 => ?_)
          · refine go_ldc dM_ask_105 kcM129 (inR_of _ rfl) ?_
            refine go_iret dM_ask_107 rfl rfl ?_
            exact MB.same hM (by unfold v_ask; rw [if_pos hc, if_neg h23, if_neg (fun h => hx.mpr h h65)])
          · refine go_iload_n (i := 3) dM_ask_68 rfl rfl ?_
            refine go_aload_n (i := 0) dM_ask_69 rfl rfl trivial ?_
            refine go_getf dM_ask_70 flM55 (by assumption) rfl ?_
            refine go_iconst dM_ask_73 (inR_of _ rfl) ?_
            refine go_iload_n (i := 1) dM_ask_74 rfl rfl ?_
            refine go_imul dM_ask_75 ?_
            refine go_iconst dM_ask_76 (inR_of _ rfl) ?_
            refine go_iadd dM_ask_77 ?_
            refine go_top (((4 * k.toNat + 1 : Nat) : Int)) (by (try simp (discharger := (unfold inR; omega)) only [w32_id]) <;> omega) ?_
            refine go_iald' (4 * k.toNat + 1) _ dM_ask_78 hM.a15 rfl (by omega) rfl ?_
            refine go_aload_n (i := 0) dM_ask_79 rfl rfl trivial ?_
            refine go_getf dM_ask_80 flM55 (by assumption) rfl ?_
            refine go_iconst dM_ask_83 (inR_of _ rfl) ?_
            refine go_iload_n (i := 1) dM_ask_84 rfl rfl ?_
            refine go_imul dM_ask_85 ?_
            refine go_iconst dM_ask_86 (inR_of _ rfl) ?_
            refine go_iadd dM_ask_87 ?_
            refine go_top (((4 * k.toNat + 2 : Nat) : Int)) (by (try simp (discharger := (unfold inR; omega)) only [w32_id]) <;> omega) ?_
            refine go_iald' (4 * k.toNat + 2) _ dM_ask_88 hM.a15 rfl (by omega) rfl ?_
            refine go_aload_n (i := 0) dM_ask_89 rfl rfl trivial ?_
            refine go_getf dM_ask_90 flM55 (by assumption) rfl ?_
            refine go_iconst dM_ask_93 (inR_of _ rfl) ?_
            refine go_iload_n (i := 1) dM_ask_94 rfl rfl ?_
            refine go_imul dM_ask_95 ?_
            refine go_iconst dM_ask_96 (inR_of _ rfl) ?_
            refine go_iadd dM_ask_97 ?_
            refine go_top (((4 * k.toNat + 3 : Nat) : Int)) (by (try simp (discharger := (unfold inR; omega)) only [w32_id]) <;> omega) ?_
            refine go_iald' (4 * k.toNat + 3) _ dM_ask_98 hM.a15 rfl (by omega) rfl ?_
            refine go_SP dM_ask_99 vkM122 (ct_worth _ _ _ _) rfl (by omega) rfl (fun _ => Nat.le_of_ble_eq_true rfl) ?_
            refine go_goto 107 dM_ask_102 rfl ?_
            refine go_iret dM_ask_107 rfl rfl ?_
            exact MB.same hM (by unfold v_ask; rw [if_pos hc, if_neg h23, if_pos (hx.mp h65)])
        refine go_aload_n (i := 0) dM_ask_29 rfl rfl trivial ?_
        refine go_getf dM_ask_30 flM55 (by assumption) rfl ?_
        refine go_iconst dM_ask_33 (inR_of _ rfl) ?_
        refine go_iload_n (i := 1) dM_ask_34 rfl rfl ?_
        refine go_imul dM_ask_35 ?_
        refine go_top (((4 * k.toNat : Nat) : Int)) (by (try simp (discharger := (unfold inR; omega)) only [w32_id]) <;> omega) ?_
        refine go_iald' (4 * k.toNat) _ dM_ask_36 hM.a15 rfl (by omega) rfl ?_
        refine go_is3 dM_ask_37 (Nat.le_of_ble_eq_true rfl) trivial ?_
        refine go_aload_n (i := 0) dM_ask_38 rfl rfl trivial ?_
        refine go_getf dM_ask_39 flM49 (by assumption) rfl ?_
        refine go_iload_n (i := 1) dM_ask_42 rfl rfl ?_
        refine go_iald' k.toNat _ dM_ask_43 hM.a13 (by omega) (by omega) rfl ?_
        refine go_iconst dM_ask_44 (inR_of _ rfl) ?_
        refine go_ic_ne 60 dM_ask_45 rfl (fun h45 => ?_) (fun h45 => ?_)
        · refine go_iconst dM_ask_60 (inR_of _ rfl) ?_
          exact t61 0 ⟨fun h => absurd rfl h, fun h => absurd h.1 h45⟩
        · refine go_iload_n (i := 3) dM_ask_48 rfl rfl ?_
          refine go_iload_n (i := 2) dM_ask_49 rfl rfl ?_
          refine go_SP dM_ask_50 vkM125 (ct_isUnder _ _) rfl (by omega) rfl (fun _ => Nat.le_of_ble_eq_true rfl) ?_
          refine go_if_eq 60 dM_ask_53 rfl (fun h53 => ?_) (fun h53 => ?_)
          · refine go_iconst dM_ask_60 (inR_of _ rfl) ?_
            exact t61 0 ⟨fun h => absurd rfl h, fun h => by omega⟩
          · refine go_iconst dM_ask_56 (inR_of _ rfl) ?_
            refine go_goto 61 dM_ask_57 rfl ?_
            exact t61 1 ⟨fun _ => ⟨h45, by omega⟩, fun _ => by omega⟩
      · refine go_ldc dM_ask_26 kcM218 (inR_of _ rfl) ?_
        refine go_iret dM_ask_28 rfl rfl ?_
        exact MB.same hM (by unfold v_ask; rw [if_pos hc, if_pos h23])
    · exact t14 (by grind [zin])
def v_item (m : Nat → Nat → Int) (k p : Int) : Int := if 0 ≤ k ∧ k ≤ 4 then (if m 13 k.toNat = 2 then (if 0 ≤ p ∧ p < m 10 (4 + k.toNat) then (if m 11 (24 * (4 + k.toNat) + p.toNat) = NONE then WRONG else m 11 (24 * (4 + k.toNat) + p.toNat)) else OUT) else if m 13 k.toNat = 0 then MISSING else WRONG) else BAD
theorem bM_item (hM : MOD F r m) (hs : mSh m) {k p : Int} : CT g yM_item 2 0 0 [gR r, gI k, gI p] (N, F) (MB N r F (gI (v_item m k p)) m) := by
  have ho := hM.1
  refine CT.of' (L0 := [gR r, gI k, gI p, gU]) plM (Nat.le_of_ble_eq_true rfl) rfl ?_
  refine go_iload_n (i := 1) dM_item_0 rfl rfl ?_
  refine go_SP dM_item_1 vkM349 (ct_isSlot k) rfl (by omega) rfl (fun _ => Nat.le_of_ble_eq_true rfl) ?_
  refine go_if_ne 10 dM_item_4 rfl (fun h4 => ?_) (fun h4 => ?_)
  · have hc : 0 ≤ k ∧ k ≤ 4 := by grind [zin]
    have h9 := hs (4 + k.toNat) (by omega)
    refine go_aload_n (i := 0) dM_item_10 rfl rfl trivial ?_
    refine go_getf dM_item_11 flM49 (by assumption) rfl ?_
    refine go_iload_n (i := 1) dM_item_14 rfl rfl ?_
    refine go_iald' k.toNat _ dM_item_15 hM.a13 (by omega) (by omega) rfl ?_
    refine go_iconst dM_item_16 (inR_of _ rfl) ?_
    refine go_ic_eq 37 dM_item_17 rfl (fun h17 => ?_) (fun h17 => ?_)
    · refine go_iload_n (i := 2) dM_item_37 rfl rfl ?_
      refine go_i2l dM_item_38 ?_
      refine go_lconst (x := 0) dM_item_39 (inL_of2 _ rfl) rfl ?_
      refine go_aload_n (i := 0) dM_item_40 rfl rfl trivial ?_
      refine go_getf dM_item_41 flM40 (by assumption) rfl ?_
      refine go_iconst dM_item_44 (inR_of _ rfl) ?_
      refine go_iload_n (i := 1) dM_item_45 rfl rfl ?_
      refine go_iadd dM_item_46 ?_
      refine go_top (((4 + k.toNat : Nat) : Int)) (by (try simp (discharger := (unfold inR; omega)) only [w32_id]) <;> omega) ?_
      refine go_iald' (4 + k.toNat) _ dM_item_47 hM.a10 rfl (by omega) rfl ?_
      refine go_iconst dM_item_48 (inR_of _ rfl) ?_
      refine go_isub dM_item_49 ?_
      refine go_top (m 10 (4 + k.toNat) - 1) (by (try simp (discharger := (unfold inR; omega)) only [w32_id]) <;> omega) ?_
      refine go_i2l dM_item_50 ?_
      refine go_SP dM_item_51 vkM65 (ct_in _ _ _) rfl (by omega) rfl (fun _ => Nat.le_of_ble_eq_true rfl) ?_
      refine go_if_ne 61 dM_item_54 rfl (fun h54 => ?_) (fun h54 => ?_)
      · have hp : 0 ≤ p ∧ p < m 10 (4 + k.toNat) := by grind [zin]
        refine go_aload_n (i := 0) dM_item_61 rfl rfl trivial ?_
        refine go_getf dM_item_62 flM43 (by assumption) rfl ?_
        refine go_bipush dM_item_65 (inR_of _ rfl) rfl ?_
        refine go_iconst dM_item_67 (inR_of _ rfl) ?_
        refine go_iload_n (i := 1) dM_item_68 rfl rfl ?_
        refine go_iadd dM_item_69 ?_
        refine go_imul dM_item_70 ?_
        refine go_iload_n (i := 2) dM_item_71 rfl rfl ?_
        refine go_iadd dM_item_72 ?_
        refine go_top (((24 * (4 + k.toNat) + p.toNat : Nat) : Int)) (by (try simp (discharger := (unfold inR; omega)) only [w32_id]) <;> omega) ?_
        refine go_iald' (24 * (4 + k.toNat) + p.toNat) _ dM_item_73 hM.a11 rfl (by omega) rfl ?_
        refine go_is3 dM_item_74 (Nat.le_of_ble_eq_true rfl) trivial ?_
        refine go_iload_n (i := 3) dM_item_75 rfl rfl ?_
        refine go_ldc dM_item_76 kcM169 (inR_of _ rfl) ?_
        refine go_ic_ne 86 dM_item_78 rfl (fun h78 => ?_) (fun h78 => ?_)
        · refine go_iload_n (i := 3) dM_item_86 rfl rfl ?_
          refine go_iret dM_item_87 rfl rfl ?_
          exact MB.same hM (by unfold v_item; rw [if_pos hc, if_pos h17, if_pos hp, if_neg h78])
        · refine go_ldc dM_item_81 kcM129 (inR_of _ rfl) ?_
          refine go_goto 87 dM_item_83 rfl ?_
          refine go_iret dM_item_87 rfl rfl ?_
          exact MB.same hM (by unfold v_item; rw [if_pos hc, if_pos h17, if_pos hp, if_pos h78])
      · refine go_ldcw dM_item_57 kcM333 (inR_of _ rfl) ?_
        refine go_iret dM_item_60 rfl rfl ?_
        exact MB.same hM (by unfold v_item; rw [if_pos hc, if_pos h17, if_neg (by grind [zin])])
    · refine go_aload_n (i := 0) dM_item_20 rfl rfl trivial ?_
      refine go_getf dM_item_21 flM49 (by assumption) rfl ?_
      refine go_iload_n (i := 1) dM_item_24 rfl rfl ?_
      refine go_iald' k.toNat _ dM_item_25 hM.a13 (by omega) (by omega) rfl ?_
      refine go_if_ne 34 dM_item_26 rfl (fun h26 => ?_) (fun h26 => ?_)
      · refine go_ldc dM_item_34 kcM129 (inR_of _ rfl) ?_
        refine go_iret dM_item_36 rfl rfl ?_
        exact MB.same hM (by unfold v_item; rw [if_pos hc, if_neg h17, if_neg h26])
      · refine go_ldc dM_item_29 kcM218 (inR_of _ rfl) ?_
        refine go_goto 36 dM_item_31 rfl ?_
        refine go_iret dM_item_36 rfl rfl ?_
        exact MB.same hM (by unfold v_item; rw [if_pos hc, if_neg h17, if_pos h26])
  · refine go_ldc dM_item_7 kcM96 (inR_of _ rfl) ?_
    refine go_iret dM_item_9 rfl rfl ?_
    exact MB.same hM (by unfold v_item; rw [if_neg (by grind [zin])])
def v_rest (m : Nat → Nat → Int) (k d : Int) : Int := if 0 ≤ k ∧ k ≤ 4 then (if m 13 k.toNat = 3 then (if d = 0 then -1000000002 else (m 14 k.toNat).tmod d) else if m 13 k.toNat = 0 then MISSING else WRONG) else BAD
theorem bM_rest (hM : MOD F r m) {k d : Int} : CT g yM_rest 2 0 0 [gR r, gI k, gI d] (N, F) (MB N r F (gI (v_rest m k d)) m) := by
  have ho := hM.1
  refine CT.of' (L0 := [gR r, gI k, gI d]) plM (Nat.le_of_ble_eq_true rfl) rfl ?_
  refine go_iload_n (i := 1) dM_rest_0 rfl rfl ?_
  refine go_SP dM_rest_1 vkM349 (ct_isSlot k) rfl (by omega) rfl (fun _ => Nat.le_of_ble_eq_true rfl) ?_
  refine go_if_ne 10 dM_rest_4 rfl (fun h4 => ?_) (fun h4 => ?_)
  · have hc : 0 ≤ k ∧ k ≤ 4 := by grind [zin]
    refine go_aload_n (i := 0) dM_rest_10 rfl rfl trivial ?_
    refine go_getf dM_rest_11 flM49 (by assumption) rfl ?_
    refine go_iload_n (i := 1) dM_rest_14 rfl rfl ?_
    refine go_iald' k.toNat _ dM_rest_15 hM.a13 (by omega) (by omega) rfl ?_
    refine go_iconst dM_rest_16 (inR_of _ rfl) ?_
    refine go_ic_eq 37 dM_rest_17 rfl (fun h17 => ?_) (fun h17 => ?_)
    · refine go_iload_n (i := 2) dM_rest_37 rfl rfl ?_
      refine go_if_ne 47 dM_rest_38 rfl (fun h38 => ?_) (fun h38 => ?_)
      · refine go_aload_n (i := 0) dM_rest_47 rfl rfl trivial ?_
        refine go_getf dM_rest_48 flM52 (by assumption) rfl ?_
        refine go_iload_n (i := 1) dM_rest_51 rfl rfl ?_
        refine go_iald' k.toNat _ dM_rest_52 hM.a14 (by omega) (by omega) rfl ?_
        refine go_iload_n (i := 2) dM_rest_53 rfl rfl ?_
        refine go_irem dM_rest_54 (by omega) ?_
        refine go_iret dM_rest_55 rfl rfl ?_
        exact MB.same hM (by unfold v_rest; rw [if_pos hc, if_pos h17, if_neg h38])
      · refine go_ldcw dM_rest_41 kcM355 (inR_of _ rfl) ?_
        refine go_goto 55 dM_rest_44 rfl ?_
        refine go_iret dM_rest_55 rfl rfl ?_
        exact MB.same hM (by unfold v_rest; rw [if_pos hc, if_pos h17, if_pos h38])
    · refine go_aload_n (i := 0) dM_rest_20 rfl rfl trivial ?_
      refine go_getf dM_rest_21 flM49 (by assumption) rfl ?_
      refine go_iload_n (i := 1) dM_rest_24 rfl rfl ?_
      refine go_iald' k.toNat _ dM_rest_25 hM.a13 (by omega) (by omega) rfl ?_
      refine go_if_ne 34 dM_rest_26 rfl (fun h26 => ?_) (fun h26 => ?_)
      · refine go_ldc dM_rest_34 kcM129 (inR_of _ rfl) ?_
        refine go_iret dM_rest_36 rfl rfl ?_
        exact MB.same hM (by unfold v_rest; rw [if_pos hc, if_neg h17, if_neg h26])
      · refine go_ldc dM_rest_29 kcM218 (inR_of _ rfl) ?_
        refine go_goto 36 dM_rest_31 rfl ?_
        refine go_iret dM_rest_36 rfl rfl ?_
        exact MB.same hM (by unfold v_rest; rw [if_pos hc, if_neg h17, if_pos h26])
  · refine go_ldc dM_rest_7 kcM96 (inR_of _ rfl) ?_
    refine go_iret dM_rest_9 rfl rfl ?_
    exact MB.same hM (by unfold v_rest; rw [if_neg (by grind [zin])])
def v_tell (m : Nat → Nat → Int) : Int := if m 17 7 = 60 then FULL else m 17 7 + 1
def u_tell (m : Nat → Nat → Int) (v : Int) : Nat → Nat → Int := if m 17 7 = 60 then m else va_up (va_up m 3 (va_up (m 3) (m 17 7).toNat v)) 17 (va_up (m 17) 7 (m 17 7 + 1))
theorem bM_tell (hM : MOD F r m) (hw : 0 ≤ m 17 7 ∧ m 17 7 ≤ 60) {v : Int} : CT g yM_tell 0 0 0 [gR r, gI v] (N, F) (MB N r F (gI (v_tell m)) (u_tell m v)) := by
  have ho := hM.1
  refine CT.of' (L0 := [gR r, gI v]) plM (Nat.le_of_ble_eq_true rfl) rfl ?_
  refine go_aload_n (i := 0) dM_tell_0 rfl rfl trivial ?_
  refine go_getf dM_tell_1 flM356 (by assumption) rfl ?_
  refine go_bipush dM_tell_4 (inR_of _ rfl) rfl ?_
  refine go_ic_ne 12 dM_tell_6 rfl (fun h6 => ?_) (fun h6 => ?_)
  · have hv : v_tell m = m 17 7 + 1 := by unfold v_tell; rw [if_neg h6]
    have hu : u_tell m v = va_up (va_up m 3 (va_up (m 3) (m 17 7).toNat v)) 17 (va_up (m 17) 7 (m 17 7 + 1)) := by unfold u_tell; rw [if_neg h6]
    rw [hv, hu]
    refine go_aload_n (i := 0) dM_tell_12 rfl rfl trivial ?_
    refine go_getf dM_tell_13 flM19 (by assumption) rfl ?_
    refine go_aload_n (i := 0) dM_tell_16 rfl rfl trivial ?_
    refine go_getf dM_tell_17 flM356 (by assumption) rfl ?_
    refine go_iload_n (i := 1) dM_tell_20 rfl rfl ?_
    refine go_mst (i := 3) (k := (m 17 7).toNat) hM (by omega) dM_tell_21 rfl (by omega) (by show _ < 60; omega) (fun F1 m1 hM1 hF1 e1 => ?_)
    have ho1 := hM1.1
    have e17 : m1 17 = m 17 := by rw [e1]; rfl
    refine go_aload_n (i := 0) dM_tell_22 rfl rfl trivial ?_
    refine go_dup dM_tell_23 trivial ?_
    refine go_getf dM_tell_24 flM356 (by assumption) rfl ?_
    rw [e17]
    refine go_iconst dM_tell_27 (inR_of _ rfl) ?_
    refine go_iadd dM_tell_28 ?_
    refine go_top (m 17 7 + 1) (by (try simp (discharger := (unfold inR; omega)) only [w32_id]) <;> omega) ?_
    refine go_mpf hM1 (hM1.f7 _) dM_tell_29 flM356 rfl rfl (fun F2 m2 hM2 hF2 e2 => ?_)
    have ho2 := hM2.1
    have e27 : m2 17 7 = m 17 7 + 1 := by rw [e2]; rfl
    refine go_aload_n (i := 0) dM_tell_32 rfl rfl trivial ?_
    refine go_getf dM_tell_33 flM356 (by assumption) rfl ?_
    refine go_iret dM_tell_36 rfl rfl ?_
    exact MB.eq hM2 (hF1.tr hF2) (by rw [e2, e1]; rfl) e27
  · refine go_ldc dM_tell_9 kcM108 (inR_of _ rfl) ?_
    refine go_iret dM_tell_11 rfl rfl ?_
    exact MB.eq hM FR.rf (by unfold u_tell; rw [if_pos h6]) (by unfold v_tell; rw [if_pos h6])
theorem qM_become (hM : MOD F r m) {i j : Nat} (hi : i = 0 ∨ i = 1 ∨ i = 16) (hj : j = 0 ∨ j = 1 ∨ j = 16) (hij : i ≠ j) : CT g yM_become 0 0 0 [gR r, gR (r + (i + 1)), gR (r + (j + 1))] (N, F) (fun rr M' => rr = gU ∧ ∃ (F2 : Nat → GC) (m2 : Nat → Nat → Int), M' = (N, F2) ∧ MOD F2 r m2 ∧ FR r F F2 ∧ m2 = va_up m i (zcp (m i) 0 (m j) 1510)) := by
  have li : mLen i = 1510 := by rcases hi with h | h | h <;> subst h <;> rfl
  have lj : mLen j = 1510 := by rcases hj with h | h | h <;> subst h <;> rfl
  have loop : ∀ (q k : Nat), k + q = 1510 → ∀ (F1 : Nat → GC) (m1 : Nat → Nat → Int), MOD F1 r m1 → FR r F F1 → m1 = va_up m i (zcp (m i) 0 (m j) k) → Go g yM_become 0 0 0 2 [gR r, gR (r + (i + 1)), gR (r + (j + 1)), gI k] [] (N, F1) (fun rr M' => rr = gU ∧ ∃ (F2 : Nat → GC) (m2 : Nat → Nat → Int), M' = (N, F2) ∧ MOD F2 r m2 ∧ FR r F F2 ∧ m2 = va_up m i (zcp (m i) 0 (m j) 1510)) := by
    intro q
    induction q with
    | zero =>
      intro k hk F1 m1 hM1 hF1 e1
      have hk : k = 1510 := by omega
      subst hk
      refine go_iload_n (i := 3) dM_become_2 rfl rfl ?_
      refine go_sipush dM_become_3 (inR_of _ rfl) rfl ?_
      refine go_ic_ge 21 dM_become_6 rfl (fun h6 => ?_) (fun h6 => absurd (by omega) h6)
      refine go_vret dM_become_21 rfl ?_
      exact ⟨rfl, F1, m1, rfl, hM1, hF1, e1⟩
    | succ q ih =>
      intro k hk F1 m1 hM1 hF1 e1
      have aj : F1 (r + (j + 1)) = cI 1510 (m1 j) := by
        have := hM1.2 j (by omega)
        rw [lj] at this
        rwa [show r + 1 + j = r + (j + 1) by omega] at this
      have ej : m1 j k = m j k := by rw [e1, va_up_ne _ _ (fun h => hij h.symm)]
      refine go_iload_n (i := 3) dM_become_2 rfl rfl ?_
      refine go_sipush dM_become_3 (inR_of _ rfl) rfl ?_
      refine go_ic_ge 21 dM_become_6 rfl (fun h6 => absurd h6 (by omega)) (fun h6 => ?_)
      refine go_aload_n (i := 1) dM_become_9 rfl rfl trivial ?_
      refine go_iload_n (i := 3) dM_become_10 rfl rfl ?_
      refine go_aload_n (i := 2) dM_become_11 rfl rfl trivial ?_
      refine go_iload_n (i := 3) dM_become_12 rfl rfl ?_
      refine go_iald' k (m j k) dM_become_13 aj rfl (by omega) ej ?_
      refine go_mst (i := i) (k := k) hM1 (by omega) dM_become_14 rfl rfl (by rw [li]; omega) (fun F2 m2 hM2 hF2 e2 => ?_)
      refine go_inc3 (((k + 1 : Nat) : Int)) dM_become_15 (Nat.le_of_ble_eq_true rfl) trivial (by (try simp (discharger := (unfold inR; omega)) only [w32_id]) <;> omega) ?_
      refine go_goto 2 dM_become_18 rfl ?_
      refine ih (k + 1) (by omega) F2 m2 hM2 (hF1.tr hF2) ?_
      rw [e2, e1, bx_uu, va_up_self]
      show _ = va_up m i (va_up (zcp (m i) 0 (m j) k) (0 + k) (m j k))
      rw [Nat.zero_add]
  refine CT.of' (L0 := [gR r, gR (r + (i + 1)), gR (r + (j + 1)), gU]) plM (Nat.le_of_ble_eq_true rfl) rfl ?_
  refine go_iconst dM_become_0 (inR_of _ rfl) ?_
  refine go_is3 dM_become_1 (Nat.le_of_ble_eq_true rfl) trivial ?_
  exact loop 1510 0 (by omega) F m hM FR.rf (by show m = va_up m i (m i); rw [va_up_id])
def u_keep (m : Nat → Nat → Int) : Nat → Nat → Int := va_up (va_up m 1 (zcp (m 1) 0 (m 0) 1510)) 17 (va_up (m 17) 6 1)
theorem bM_keep (hM : MOD F r m) : CT g yM_keep 1 0 0 [gR r] (N, F) (MB N r F (gI (m 0 0)) (u_keep m)) := by
  have ho := hM.1
  refine CT.of' (L0 := [gR r]) plM (Nat.le_of_ble_eq_true rfl) rfl ?_
  refine go_aload_n (i := 0) dM_keep_0 rfl rfl trivial ?_
  refine go_aload_n (i := 0) dM_keep_1 rfl rfl trivial ?_
  refine go_getf dM_keep_2 flM13 (by assumption) rfl ?_
  refine go_aload_n (i := 0) dM_keep_5 rfl rfl trivial ?_
  refine go_getf dM_keep_6 flM7 (by assumption) rfl ?_
  refine go_VX dM_keep_9 vkM364 (by assumption) (List.cons_ne_nil _ _) (qM_become hM (i := 1) (j := 0) (by omega) (by omega) (by omega)) rfl (by omega) (by omega) (by omega) rfl (fun _ => Nat.le_of_ble_eq_true rfl) ?_
  rintro _ _ ⟨rfl, F2, m2, rfl, hM2, hF2, e2⟩ -
  dsimp only [rp]
  refine go_aload_n (i := 0) dM_keep_12 rfl rfl trivial ?_
  refine go_iconst dM_keep_13 (inR_of _ rfl) ?_
  refine go_mpf hM2 (hM2.f6 _) dM_keep_14 flM361 rfl rfl (fun F3 m3 hM3 hF3 e3 => ?_)
  have ho3 := hM3.1
  have e30 : m3 0 0 = m 0 0 := by rw [e3, e2]; rfl
  have a3 := hM3.a0
  refine go_aload_n (i := 0) dM_keep_17 rfl rfl trivial ?_
  refine go_getf dM_keep_18 flM7 (by assumption) rfl ?_
  refine go_iconst dM_keep_21 (inR_of _ rfl) ?_
  refine go_iald' 0 _ dM_keep_22 (by assumption) rfl (by omega) rfl ?_
  refine go_iret dM_keep_23 rfl rfl ?_
  exact MB.eq hM3 (hF2.tr hF3) (by rw [e3, e2]; rfl) e30
def v_back (m : Nat → Nat → Int) : Int := if m 17 6 = 0 then -1000000002 else m 1 0
def u_back (m : Nat → Nat → Int) : Nat → Nat → Int := if m 17 6 = 0 then m else va_up m 0 (zcp (m 0) 0 (m 1) 1510)
theorem zcp_hit {T : Nat → Int} {b : Nat} {f : Nat → Int} : ∀ {n i : Nat}, i < n → zcp T b f n (b + i) = f i
  | 0, _, h => absurd h (Nat.not_lt_zero _)
  | n + 1, i, h => by
    show va_up (zcp T b f n) (b + n) (f n) (b + i) = f i
    by_cases e : i = n
    · subst e; rw [va_up_self]
    · rw [va_up_ne _ _ (by omega)]; exact zcp_hit (by omega)
theorem bM_back (hM : MOD F r m) : CT g yM_back 1 0 0 [gR r] (N, F) (MB N r F (gI (v_back m)) (u_back m)) := by
  have ho := hM.1
  refine CT.of' (L0 := [gR r]) plM (Nat.le_of_ble_eq_true rfl) rfl ?_
  refine go_aload_n (i := 0) dM_back_0 rfl rfl trivial ?_
  refine go_getf dM_back_1 flM361 (by assumption) rfl ?_
  refine go_if_ne 11 dM_back_4 rfl (fun h4 => ?_) (fun h4 => ?_)
  · refine go_aload_n (i := 0) dM_back_11 rfl rfl trivial ?_
    refine go_aload_n (i := 0) dM_back_12 rfl rfl trivial ?_
    refine go_getf dM_back_13 flM7 (by assumption) rfl ?_
    refine go_aload_n (i := 0) dM_back_16 rfl rfl trivial ?_
    refine go_getf dM_back_17 flM13 (by assumption) rfl ?_
    refine go_VX dM_back_20 vkM364 (by assumption) (List.cons_ne_nil _ _) (qM_become hM (i := 0) (j := 1) (by omega) (by omega) (by omega)) rfl (by omega) (by omega) (by omega) rfl (fun _ => Nat.le_of_ble_eq_true rfl) ?_
    rintro _ _ ⟨rfl, F2, m2, rfl, hM2, hF2, e2⟩ -
    dsimp only [rp]
    have ho2 := hM2.1
    have a2 := hM2.a0
    have e20 : m2 0 0 = m 1 0 := by
      have h := zcp_hit (T := m 0) (b := 0) (f := m 1) (n := 1510) (i := 0) (by omega)
      rw [Nat.zero_add] at h
      rw [e2, va_up_self]
      exact h
    refine go_aload_n (i := 0) dM_back_23 rfl rfl trivial ?_
    refine go_getf dM_back_24 flM7 (by assumption) rfl ?_
    refine go_iconst dM_back_27 (inR_of _ rfl) ?_
    refine go_iald' 0 _ dM_back_28 (by assumption) rfl (by omega) rfl ?_
    refine go_iret dM_back_29 rfl rfl ?_
    exact MB.eq hM2 hF2 (by rw [e2]; unfold u_back; rw [if_neg h4]) (by rw [e20]; unfold v_back; rw [if_neg h4])
  · refine go_ldcw dM_back_7 kcM355 (inR_of _ rfl) ?_
    refine go_iret dM_back_10 rfl rfl ?_
    exact MB.eq hM FR.rf (by unfold u_back; rw [if_pos (by omega)]) (by unfold v_back; rw [if_pos (by omega)])
def v_count (m : Nat → Nat → Int) (w : Int) : Int := if w = 0 then m 0 0 else if w = 1 then m 0 6 else if w = 2 then m 0 1 else if w = 3 then m 0 2 else if w = 4 then m 0 64 else if w = 5 then m 17 7 else if w = 6 then m 17 11 else if w = 7 then m 0 7 else BAD
theorem bM_count (hM : MOD F r m) {w : Int} : CT g yM_count 0 0 0 [gR r, gI w] (N, F) (MB N r F (gI (v_count m w)) m) := by
  have ho := hM.1
  have a0 := hM.a0
  refine CT.of' (L0 := [gR r, gI w]) plM (Nat.le_of_ble_eq_true rfl) rfl ?_
  refine go_iload_n (i := 1) dM_count_0 rfl rfl ?_
  refine tabC dM_count_1 103 rfl (fun h => ?_) (fun n h1 h2 => ?_)
  · refine go_ldc dM_count_103 kcM96 (inR_of _ rfl) ?_
    refine go_iret dM_count_105 rfl rfl ?_
    exact MB.same hM (by unfold v_count; grind)
  · match n, h1 with
    | 0, h1 =>
      refine ⟨_, rfl, 48, rfl, ?_⟩
      refine go_aload_n (i := 0) dM_count_48 rfl rfl trivial ?_
      refine go_getf dM_count_49 flM7 (by assumption) rfl ?_
      refine go_iconst dM_count_52 (inR_of _ rfl) ?_
      refine go_iald' 0 _ dM_count_53 (by assumption) rfl (by omega) rfl ?_
      refine go_iret dM_count_54 rfl rfl ?_
      exact MB.same hM (by unfold v_count; grind)
    | 1, h1 =>
      refine ⟨_, rfl, 55, rfl, ?_⟩
      refine go_aload_n (i := 0) dM_count_55 rfl rfl trivial ?_
      refine go_getf dM_count_56 flM7 (by assumption) rfl ?_
      refine go_bipush dM_count_59 (inR_of _ rfl) rfl ?_
      refine go_iald' 6 _ dM_count_61 (by assumption) rfl (by omega) rfl ?_
      refine go_iret dM_count_62 rfl rfl ?_
      exact MB.same hM (by unfold v_count; grind)
    | 2, h1 =>
      refine ⟨_, rfl, 63, rfl, ?_⟩
      refine go_aload_n (i := 0) dM_count_63 rfl rfl trivial ?_
      refine go_getf dM_count_64 flM7 (by assumption) rfl ?_
      refine go_iconst dM_count_67 (inR_of _ rfl) ?_
      refine go_iald' 1 _ dM_count_68 (by assumption) rfl (by omega) rfl ?_
      refine go_iret dM_count_69 rfl rfl ?_
      exact MB.same hM (by unfold v_count; grind)
    | 3, h1 =>
      refine ⟨_, rfl, 70, rfl, ?_⟩
      refine go_aload_n (i := 0) dM_count_70 rfl rfl trivial ?_
      refine go_getf dM_count_71 flM7 (by assumption) rfl ?_
      refine go_iconst dM_count_74 (inR_of _ rfl) ?_
      refine go_iald' 2 _ dM_count_75 (by assumption) rfl (by omega) rfl ?_
      refine go_iret dM_count_76 rfl rfl ?_
      exact MB.same hM (by unfold v_count; grind)
    | 4, h1 =>
      refine ⟨_, rfl, 77, rfl, ?_⟩
      refine go_aload_n (i := 0) dM_count_77 rfl rfl trivial ?_
      refine go_getf dM_count_78 flM7 (by assumption) rfl ?_
      refine go_bipush dM_count_81 (inR_of _ rfl) rfl ?_
      refine go_iald' 64 _ dM_count_83 (by assumption) rfl (by omega) rfl ?_
      refine go_iret dM_count_84 rfl rfl ?_
      exact MB.same hM (by unfold v_count; grind)
    | 5, h1 =>
      refine ⟨_, rfl, 85, rfl, ?_⟩
      refine go_aload_n (i := 0) dM_count_85 rfl rfl trivial ?_
      refine go_getf dM_count_86 flM356 (by assumption) rfl ?_
      refine go_iret dM_count_89 rfl rfl ?_
      exact MB.same hM (by unfold v_count; grind)
    | 6, h1 =>
      refine ⟨_, rfl, 90, rfl, ?_⟩
      refine go_aload_n (i := 0) dM_count_90 rfl rfl trivial ?_
      refine go_getf dM_count_91 flM227 (by assumption) rfl ?_
      refine go_iret dM_count_94 rfl rfl ?_
      exact MB.same hM (by unfold v_count; grind)
    | 7, h1 =>
      refine ⟨_, rfl, 95, rfl, ?_⟩
      refine go_aload_n (i := 0) dM_count_95 rfl rfl trivial ?_
      refine go_getf dM_count_96 flM7 (by assumption) rfl ?_
      refine go_bipush dM_count_99 (inR_of _ rfl) rfl ?_
      refine go_iald' 7 _ dM_count_101 (by assumption) rfl (by omega) rfl ?_
      refine go_iret dM_count_102 rfl rfl ?_
      exact MB.same hM (by unfold v_count; grind)
    | n + 8, h1 => omega
end MSLOT2
